section
/-! THE REFLECTION: a small evaluator of bytecode over an abstract heap; the machine does what the evaluator does. Abstract cells are numbers; ad tells their addresses: those below a0 lie there before the law begins and are only read (0 is a thing that nobody looks into); the others are made in order. -/
abbrev rf_M : Type := (Nat → Nat → Int32) × (Nat → Nat → Int64) × (Nat → Nat → Option Nat)
abbrev rf_S : Type := Nat ⊕ (FieldType × Nat)
abbrev rf_H : Type := rf_M × (Nat → rf_S) × Nat × Nat
abbrev rf_L : Type := List (Nat × Value)
abbrev rf_I : Type := Instr × List (Int × Nat)
abbrev rf_N : Type := Nat × rf_L × List Value × rf_H
abbrev rf_O : Type := rf_N ⊕ ((Nat × List Value × List Value) ⊕ Option Value)
abbrev rf_Mt : Type := MethodName × ByteArray × Nat × Option FieldType
/-- the program: what stands at a place; the methods; the types of fields (by the key of a class); the classes; the number of old cells -/
abbrev rf_C : Type := (Nat → Nat → Option rf_I) × (Nat → rf_Mt) × (Int → Nat → FieldType) × List vw_C × Nat
def rf_cv (ad : Nat → Nat) : Value → Value
  | .ref a => .ref (ad a)
  | v => v
theorem rf_cat (ad : Nat → Nat) (v : Value) : (rf_cv ad v).category = v.category := by cases v <;> rfl
theorem rf_cvrf (ad : Nat → Nat) (r : Option Nat) : rf_cv ad (va_rf r) = va_rf (r.map ad) := by cases r <;> rfl
theorem rf_cats (ad : Nat → Nat) (st : List Value) : ((st.map (rf_cv ad)).map fun v => v.category).sum = (st.map fun v => v.category).sum := by
  rw [List.map_map]
  congr 1
  exact List.map_congr_left (fun v _ => rf_cat ad v)
/-- slot k of cell a, by its type -/
def rf_rd (M : rf_M) (ty : FieldType) (a k : Nat) : Value := match ty with
  | .long => .long (M.2.1 a k)
  | .object _ => va_rf (M.2.2 a k)
  | .array _ => va_rf (M.2.2 a k)
  | .float => .null
  | .double => .null
  | _ => .int (M.1 a k)
def rf_wi (M : rf_M) (a k : Nat) (x : Int32) : rf_M := (va_up M.1 a (va_up (M.1 a) k x), M.2.1, M.2.2)
def rf_wl (M : rf_M) (a k : Nat) (x : Int64) : rf_M := (M.1, va_up M.2.1 a (va_up (M.2.1 a) k x), M.2.2)
def rf_wq (M : rf_M) (a k : Nat) (x : Option Nat) : rf_M := (M.1, M.2.1, va_up M.2.2 a (va_up (M.2.2 a) k x))
def rf_wr (M : rf_M) (ty : FieldType) (a k : Nat) (v : Value) : Option rf_M := match ty, v with
  | .int, .int x => some (rf_wi M a k x)
  | .long, .long x => some (rf_wl M a k x)
  | .object _, .ref x => some (rf_wq M a k (some x))
  | .object _, .null => some (rf_wq M a k none)
  | .array _, .ref x => some (rf_wq M a k (some x))
  | .array _, .null => some (rf_wq M a k none)
  | .boolean, .int x => if narrow .boolean (.int x) = .int x ∧ fits .boolean (.int x) = true then some (rf_wi M a k x) else none
  | .byte, .int x => if narrow .byte (.int x) = .int x ∧ fits .byte (.int x) = true then some (rf_wi M a k x) else none
  | .char, .int x => if narrow .char (.int x) = .int x ∧ fits .char (.int x) = true then some (rf_wi M a k x) else none
  | .short, .int x => if narrow .short (.int x) = .int x ∧ fits .short (.int x) = true then some (rf_wi M a k x) else none
  | _, _ => none
theorem rf_up2 {α : Type} (f : Nat → Nat → α) {a k a' k' : Nat} (x : α) (h : a' ≠ a ∨ k' ≠ k) : va_up f a (va_up (f a) k x) a' k' = f a' k' := by
  unfold va_up
  by_cases ha : a' = a
  · subst ha
    have hk : k' ≠ k := h.resolve_left (fun q => q rfl)
    simp [hk]
  · simp [ha]
theorem rf_up2s {α : Type} (f : Nat → Nat → α) (a k : Nat) (x : α) : va_up f a (va_up (f a) k x) a k = x := by simp [va_up]
theorem rf_wi_ne (M : rf_M) {a k a' k' : Nat} (x : Int32) (h : a' ≠ a ∨ k' ≠ k) (ty : FieldType) : rf_rd (rf_wi M a k x) ty a' k' = rf_rd M ty a' k' := by
  cases ty <;> first | rfl | exact congrArg Value.int (rf_up2 M.1 x h)
theorem rf_wl_ne (M : rf_M) {a k a' k' : Nat} (x : Int64) (h : a' ≠ a ∨ k' ≠ k) (ty : FieldType) : rf_rd (rf_wl M a k x) ty a' k' = rf_rd M ty a' k' := by
  cases ty <;> first | rfl | exact congrArg Value.long (rf_up2 M.2.1 x h)
theorem rf_wq_ne (M : rf_M) {a k a' k' : Nat} (x : Option Nat) (h : a' ≠ a ∨ k' ≠ k) (ty : FieldType) : rf_rd (rf_wq M a k x) ty a' k' = rf_rd M ty a' k' := by
  cases ty <;> first | rfl | exact congrArg va_rf (rf_up2 M.2.2 x h)
/-- a writing: the slot has the value, all other slots are as before, the value fits -/
theorem rf_wr_ok {M M' : rf_M} {ty : FieldType} {a k : Nat} {v : Value} (h : rf_wr M ty a k v = some M') (ad : Nat → Nat) : rf_rd M' ty a k = v ∧ (∀ (ty' : FieldType) (a' k' : Nat), (a' ≠ a ∨ k' ≠ k) → rf_rd M' ty' a' k' = rf_rd M ty' a' k') ∧ narrow ty (rf_cv ad v) = rf_cv ad v ∧ fits ty (rf_cv ad v) = true := by
  unfold rf_wr at h
  split at h
  · cases h; exact ⟨congrArg Value.int (rf_up2s _ _ _ _), fun ty' a' k' q => rf_wi_ne M _ q ty', rfl, rfl⟩
  · cases h; exact ⟨congrArg Value.long (rf_up2s _ _ _ _), fun ty' a' k' q => rf_wl_ne M _ q ty', rfl, rfl⟩
  · cases h; exact ⟨congrArg va_rf (rf_up2s _ _ _ _), fun ty' a' k' q => rf_wq_ne M _ q ty', rfl, rfl⟩
  · cases h; exact ⟨congrArg va_rf (rf_up2s _ _ _ _), fun ty' a' k' q => rf_wq_ne M _ q ty', rfl, rfl⟩
  · cases h; exact ⟨congrArg va_rf (rf_up2s _ _ _ _), fun ty' a' k' q => rf_wq_ne M _ q ty', rfl, rfl⟩
  · cases h; exact ⟨congrArg va_rf (rf_up2s _ _ _ _), fun ty' a' k' q => rf_wq_ne M _ q ty', rfl, rfl⟩
  · split at h
    · rename_i hc
      cases h; exact ⟨congrArg Value.int (rf_up2s _ _ _ _), fun ty' a' k' q => rf_wi_ne M _ q ty', hc.1, hc.2⟩
    · cases h
  · split at h
    · rename_i hc
      cases h; exact ⟨congrArg Value.int (rf_up2s _ _ _ _), fun ty' a' k' q => rf_wi_ne M _ q ty', hc.1, hc.2⟩
    · cases h
  · split at h
    · rename_i hc
      cases h; exact ⟨congrArg Value.int (rf_up2s _ _ _ _), fun ty' a' k' q => rf_wi_ne M _ q ty', hc.1, hc.2⟩
    · cases h
  · split at h
    · rename_i hc
      cases h; exact ⟨congrArg Value.int (rf_up2s _ _ _ _), fun ty' a' k' q => rf_wi_ne M _ q ty', hc.1, hc.2⟩
    · cases h
  · cases h
/-- a new cell -/
def rf_nw (h : rf_H) (sh : rf_S) (N : Nat) : rf_H := ((va_up h.1.1 h.2.2.1 (fun _ => 0), va_up h.1.2.1 h.2.2.1 (fun _ => 0), va_up h.1.2.2 h.2.2.1 (fun _ => none)), va_up h.2.1 h.2.2.1 sh, h.2.2.1 + 1, h.2.2.2 + N)
def rf_lk (aux : List (Int × Nat)) (z : Int) : Option Nat := (aux.find? (fun q => q.1 == z)).map (fun q => q.2)
def rf_ky (a0 a ci : Nat) : Int := if a < a0 then -(ci : Int) - 1 else (ci : Int)
/-- the class of an object -/
def rf_ob (h : rf_H) (a : Nat) : Option Nat := if 0 < a ∧ a < h.2.2.1 then (match h.2.1 a with | .inl ci => some ci | .inr _ => none) else none
/-- the type and length of an array -/
def rf_aa (h : rf_H) (a : Nat) : Option (FieldType × Nat) := if 0 < a ∧ a < h.2.2.1 then (match h.2.1 a with | .inr q => some q | .inl _ => none) else none
def rf_cc (x y : Int32) : Jvm.ClassFile.Cond → Bool
  | .eq => decide (x = y)
  | .ne => !decide (x = y)
  | .lt => decide (x < y)
  | .ge => decide (y ≤ x)
  | .gt => decide (y < x)
  | .le => decide (x ≤ y)
/-- arithmetic: instructions of one byte on the stack alone -/
def rf_ar (I : Instr) (st : List Value) : Option (List Value) := match I, st with
  | .iadd, .int y :: .int x :: r => some (.int (x + y) :: r)
  | .isub, .int y :: .int x :: r => some (.int (x - y) :: r)
  | .imul, .int y :: .int x :: r => some (.int (x * y) :: r)
  | .iand, .int y :: .int x :: r => some (.int (x &&& y) :: r)
  | .ior, .int y :: .int x :: r => some (.int (x ||| y) :: r)
  | .ixor, .int y :: .int x :: r => some (.int (x ^^^ y) :: r)
  | .idiv, .int y :: .int x :: r => if y = 0 then none else some (.int (x / y) :: r)
  | .irem, .int y :: .int x :: r => if y = 0 then none else some (.int (x - x / y * y) :: r)
  | .ineg, .int x :: r => some (.int (-x) :: r)
  | .ishl, .int y :: .int x :: r => some (.int (x <<< (y &&& 31)) :: r)
  | .ishr, .int y :: .int x :: r => some (.int (x >>> (y &&& 31)) :: r)
  | .iushr, .int y :: .int x :: r => some (.int (x.toUInt32 >>> (y.toUInt32 &&& Int32.toUInt32 31)).toInt32 :: r)
  | .ladd, .long y :: .long x :: r => some (.long (x + y) :: r)
  | .lsub, .long y :: .long x :: r => some (.long (x - y) :: r)
  | .lmul, .long y :: .long x :: r => some (.long (x * y) :: r)
  | .land, .long y :: .long x :: r => some (.long (x &&& y) :: r)
  | .lor, .long y :: .long x :: r => some (.long (x ||| y) :: r)
  | .lxor, .long y :: .long x :: r => some (.long (x ^^^ y) :: r)
  | .ldiv, .long y :: .long x :: r => if y = 0 then none else some (.long (x / y) :: r)
  | .lrem, .long y :: .long x :: r => if y = 0 then none else some (.long (x - x / y * y) :: r)
  | .lneg, .long x :: r => some (.long (-x) :: r)
  | .lshl, .int y :: .long x :: r => some (.long (x <<< (y.toInt64 &&& 63)) :: r)
  | .lshr, .int y :: .long x :: r => some (.long (x >>> (y.toInt64 &&& 63)) :: r)
  | .lushr, .int y :: .long x :: r => some (.long (x.toUInt64 >>> (y.toInt64.toUInt64 &&& Int64.toUInt64 63)).toInt64 :: r)
  | .lcmp, .long y :: .long x :: r => some (.int (lg_cmp x y) :: r)
  | .i2l, .int x :: r => some (.long x.toInt64 :: r)
  | .l2i, .long x :: r => some (.int x.toInt32 :: r)
  | .i2b, .int x :: r => some (.int x.toInt8.toInt32 :: r)
  | .i2s, .int x :: r => some (.int x.toInt16.toInt32 :: r)
  | .i2c, .int x :: r => some (.int (x.toUInt32 % 65536).toInt32 :: r)
  | .dup, v :: r => if v.category = 1 then some (v :: v :: r) else none
  | .pop, v :: r => if v.category = 1 then some r else none
  | .pop2, v :: r => if v.category = 2 then some r else none
  | .dup_x1, v :: w :: r => if v.category = 1 ∧ w.category = 1 then some (v :: w :: v :: r) else none
  | .dup_x2, v :: w :: u :: r => if v.category = 1 ∧ w.category = 1 ∧ u.category = 1 then some (v :: w :: u :: v :: r) else none
  | .dup2, v :: w :: r => if v.category = 1 ∧ w.category = 1 then some (v :: w :: v :: w :: r) else if v.category = 2 then some (v :: v :: w :: r) else none
  | .aconst_null, r => some (.null :: r)
  | _, _ => none
def rf_s1 (ls : rf_L) (i : Nat) (v : Value) : rf_L := (i, v) :: ls.filter (fun q => !(q.1 == i) && !(q.1 + 1 == i && q.2.category == 2))
def rf_s2 (ls : rf_L) (i : Nat) (v : Value) : rf_L := (i, v) :: ls.filter (fun q => !(q.1 == i) && (!(q.1 == i + 1) && !(q.1 + 1 == i && q.2.category == 2)))
def rf_ld (ls : rf_L) (i : Nat) : Option Value := (ls.find? (fun q => q.1 == i)).map (fun q => q.2)
def rf_li (ls : rf_L) (i : Nat) (st : List Value) : Option (List Value) := match rf_ld ls i with
  | some (.int x) => some (.int x :: st)
  | _ => none
def rf_ll (ls : rf_L) (i : Nat) (st : List Value) : Option (List Value) := match rf_ld ls i with
  | some (.long x) => some (.long x :: st)
  | _ => none
def rf_la (ls : rf_L) (i : Nat) (st : List Value) : Option (List Value) := match rf_ld ls i with
  | some (.ref x) => some (.ref x :: st)
  | some .null => some (.null :: st)
  | _ => none
/-- constants, loads -/
def rf_lo (I : Instr) (aux : List (Int × Nat)) (ls : rf_L) (st : List Value) : Option (List Value) := match I with
  | .iconst n => some (.int (Int32.ofInt n) :: st)
  | .bipush n => some (.int (Int8.ofInt n).toInt32 :: st)
  | .sipush n => some (.int (Int16.ofInt n).toInt32 :: st)
  | .lconst n => some (.long (Int64.ofNat (n : Nat)) :: st)
  | .iload_n k => rf_li ls (k : Nat) st
  | .iload k => rf_li ls k st
  | .lload_n k => rf_ll ls (k : Nat) st
  | .lload k => rf_ll ls k st
  | .aload_n k => rf_la ls (k : Nat) st
  | .aload k => rf_la ls k st
  | _ => none
/-- stores, iinc -/
def rf_so (I : Instr) (nL : Nat) (ls : rf_L) (st : List Value) : Option (rf_L × List Value) := match I, st with
  | .istore_n k, .int x :: r => if (k : Nat) < nL then some (rf_s1 ls (k : Nat) (.int x), r) else none
  | .istore k, .int x :: r => if k < nL then some (rf_s1 ls k (.int x), r) else none
  | .lstore_n k, .long x :: r => if (k : Nat) + 1 < nL then some (rf_s2 ls (k : Nat) (.long x), r) else none
  | .lstore k, .long x :: r => if k + 1 < nL then some (rf_s2 ls k (.long x), r) else none
  | .astore_n k, .ref x :: r => if (k : Nat) < nL then some (rf_s1 ls (k : Nat) (.ref x), r) else none
  | .astore k, .ref x :: r => if k < nL then some (rf_s1 ls k (.ref x), r) else none
  | .astore_n k, .null :: r => if (k : Nat) < nL then some (rf_s1 ls (k : Nat) .null, r) else none
  | .astore k, .null :: r => if k < nL then some (rf_s1 ls k .null, r) else none
  | .iinc k n, r => match rf_ld ls k with
    | some (.int x) => if k < nL then some (rf_s1 ls k (.int (x + Int32.ofInt n)), r) else none
    | _ => none
  | _, _ => none
def rf_sw : List (Int × Nat) → Nat → Int → Nat
  | [], d, _ => d
  | q :: r, d, x => if q.1 = x then q.2 else rf_sw r d x
def rf_tg (aux : List (Int × Nat)) : Nat := (aux.headD (0, 0)).2
/-- branches: the next place, and the stack -/
def rf_br (a0 : Nat) (I : Instr) (aux : List (Int × Nat)) (pc : Nat) (st : List Value) : Option (Nat × List Value) := match I, st with
  | .goto _, r => some (rf_tg aux, r)
  | .ifCond c _, .int x :: r => some (if rf_cc x 0 c = true then rf_tg aux else pc + 3, r)
  | .if_icmp c _, .int y :: .int x :: r => some (if rf_cc x y c = true then rf_tg aux else pc + 3, r)
  | .ifnull _, .ref _ :: r => some (pc + 3, r)
  | .ifnull _, .null :: r => some (rf_tg aux, r)
  | .ifnonnull _, .ref _ :: r => some (rf_tg aux, r)
  | .ifnonnull _, .null :: r => some (pc + 3, r)
  | .if_acmp .eq _, .ref y :: .ref x :: r => if x < a0 ∨ y < a0 then none else some (if x = y then rf_tg aux else pc + 3, r)
  | .if_acmp .ne _, .ref y :: .ref x :: r => if x < a0 ∨ y < a0 then none else some (if x = y then pc + 3 else rf_tg aux, r)
  | .if_acmp .eq _, .null :: .null :: r => some (rf_tg aux, r)
  | .if_acmp .eq _, .null :: .ref _ :: r => some (pc + 3, r)
  | .if_acmp .eq _, .ref _ :: .null :: r => some (pc + 3, r)
  | .if_acmp .ne _, .null :: .null :: r => some (pc + 3, r)
  | .if_acmp .ne _, .null :: .ref _ :: r => some (rf_tg aux, r)
  | .if_acmp .ne _, .ref _ :: .null :: r => some (rf_tg aux, r)
  | .tableswitch _ lo hi _, .int x :: r => if x.toInt < lo ∨ hi < x.toInt then some (rf_tg aux, r) else (match aux[(x.toInt - lo).toNat + 1]? with | some q => some (q.2, r) | none => none)
  | .lookupswitch _ _, .int x :: r => some (rf_sw aux.tail (rf_tg aux) x.toInt, r)
  | _, _ => none
/-- the answer -/
def rf_rt (I : Instr) (ret : Option FieldType) (st : List Value) : Option (Option Value) := match I, ret, st with
  | .ireturn, some .int, [.int v] => some (some (.int v))
  | .ireturn, some .boolean, [.int v] => if narrow .boolean (.int v) = .int v then some (some (.int v)) else none
  | .ireturn, some .byte, [.int v] => if narrow .byte (.int v) = .int v then some (some (.int v)) else none
  | .ireturn, some .char, [.int v] => if narrow .char (.int v) = .int v then some (some (.int v)) else none
  | .ireturn, some .short, [.int v] => if narrow .short (.int v) = .int v then some (some (.int v)) else none
  | .lreturn, some .long, [.long v] => some (some (.long v))
  | .areturn, some (.object _), [.ref v] => some (some (.ref v))
  | .areturn, some (.object _), [.null] => some (some .null)
  | .areturn, some (.array _), [.ref v] => some (some (.ref v))
  | .areturn, some (.array _), [.null] => some (some .null)
  | .return_, none, [] => some none
  | _, _, _ => none
/-- an array's element -/
def rf_el (h : rf_H) (ty : FieldType) (a : Nat) (j : Int32) : Option Value := match rf_aa h a with
  | some q => if q.1 = ty ∧ ¬ (j < 0 ∨ q.2 ≤ j.toNatClampNeg) then some (rf_rd h.1 ty a j.toNatClampNeg) else none
  | none => none
/-- heap instructions: the stack and the heap behind them -/
def rf_hp (cx : rf_C) (I : Instr) (aux : List (Int × Nat)) (st : List Value) (h : rf_H) : Option (List Value × rf_H) := match I, st with
  | .getfield _, .ref a :: r => match rf_ob h a with
    | some ci => match rf_lk aux (rf_ky cx.2.2.2.2 a ci) with
      | some k => some (rf_rd h.1 (cx.2.2.1 (rf_ky cx.2.2.2.2 a ci) k) a k :: r, h)
      | none => none
    | none => none
  | .putfield _, v :: .ref a :: r => if a < cx.2.2.2.2 then none else match rf_ob h a with
    | some ci => match rf_lk aux (ci : Int) with
      | some k => match rf_wr h.1 (cx.2.2.1 (ci : Int) k) a k v with
        | some M => some (r, (M, h.2))
        | none => none
      | none => none
    | none => none
  | .iaload, .int j :: .ref a :: r => match rf_el h .int a j with
    | some v => some (v :: r, h)
    | none => none
  | .laload, .int j :: .ref a :: r => match rf_el h .long a j with
    | some v => some (v :: r, h)
    | none => none
  | .baload, .int j :: .ref a :: r => match rf_el h .byte a j with
    | some v => some (v :: r, h)
    | none => match rf_el h .boolean a j with
      | some v => some (v :: r, h)
      | none => none
  | .caload, .int j :: .ref a :: r => match rf_el h .char a j with
    | some v => some (v :: r, h)
    | none => none
  | .saload, .int j :: .ref a :: r => match rf_el h .short a j with
    | some v => some (v :: r, h)
    | none => none
  | .aaload, .int j :: .ref a :: r => match rf_aa h a with
    | some (.object C, n) => match rf_el h (.object C) a j with
      | some v => some (v :: r, h)
      | none => none
    | some (.array t, n) => match rf_el h (.array t) a j with
      | some v => some (v :: r, h)
      | none => none
    | _ => none
  | .iastore, .int x :: .int j :: .ref a :: r => if a < cx.2.2.2.2 then none else match rf_el h .int a j with
    | some _ => some (r, (rf_wi h.1 a j.toNatClampNeg x, h.2))
    | none => none
  | .lastore, .long x :: .int j :: .ref a :: r => if a < cx.2.2.2.2 then none else match rf_el h .long a j with
    | some _ => some (r, (rf_wl h.1 a j.toNatClampNeg x, h.2))
    | none => none
  | .bastore, .int x :: .int j :: .ref a :: r => if a < cx.2.2.2.2 then none else match rf_el h .byte a j with
    | some _ => some (r, (rf_wi h.1 a j.toNatClampNeg x.toInt8.toInt32, h.2))
    | none => match rf_el h .boolean a j with
      | some _ => some (r, (rf_wi h.1 a j.toNatClampNeg (x &&& 1), h.2))
      | none => none
  | .castore, .int x :: .int j :: .ref a :: r => if a < cx.2.2.2.2 then none else match rf_el h .char a j with
    | some _ => some (r, (rf_wi h.1 a j.toNatClampNeg x.toUInt32.toUInt16.toUInt32.toInt32, h.2))
    | none => none
  | .aastore, .ref v :: .int j :: .ref a :: r => if a < cx.2.2.2.2 ∨ v < cx.2.2.2.2 then none else match rf_aa h a, rf_ob h v with
    | some (.object C, n), some ci => if (cx.2.2.2.1[ci]?).map (fun q => q.1) = some C ∧ ¬ (j < 0 ∨ n ≤ j.toNatClampNeg) then some (r, (rf_wq h.1 a j.toNatClampNeg (some v), h.2)) else none
    | _, _ => none
  | .aastore, .null :: .int j :: .ref a :: r => if a < cx.2.2.2.2 then none else match rf_aa h a with
    | some (.object C, n) => if ¬ (j < 0 ∨ n ≤ j.toNatClampNeg) then some (r, (rf_wq h.1 a j.toNatClampNeg none, h.2)) else none
    | _ => none
  | .arraylength, .ref a :: r => match rf_aa h a with
    | some q => some (.int (nI q.2) :: r, h)
    | none => none
  | .new _, r => match aux with
    | [(_, ci)] => match cx.2.2.2.1[ci]? with
      | some q => some (.ref h.2.2.1 :: r, rf_nw h (.inl ci) q.2.2)
      | none => none
    | _ => none
  | .newarray t, .int n :: r => if ¬ n < 0 ∧ n.toNatClampNeg * componentBytes (newarray.typeOf t) ≤ 536870912 ∧ (newarray.typeOf t ≠ .float ∧ newarray.typeOf t ≠ .double) then some (.ref h.2.2.1 :: r, rf_nw h (.inr (newarray.typeOf t, n.toNatClampNeg)) n.toNatClampNeg) else none
  | .anewarray _, .int n :: r => match aux with
    | [(_, ci)] => match cx.2.2.2.1[ci]? with
      | some q => if ¬ n < 0 ∧ n.toNatClampNeg * 4 ≤ 536870912 then some (.ref h.2.2.1 :: r, rf_nw h (.inr (.object q.1, n.toNatClampNeg)) n.toNatClampNeg) else none
      | none => none
    | _ => none
  | _, _ => none
/-- calls of the JDK that the kit has rows for: Object(), arraycopy of ints and longs, Math.min and Math.max of ints; by their kind -/
def rf_ok8 (r : List Value) (d : Nat × Nat) (w : Nat) : Bool := decide (1 ≤ d.1) && decide ((r.map fun v => v.category).sum + w ≤ d.2)
def rf_bi (cx : rf_C) (kd : Int) (d : Nat × Nat) (st : List Value) (h : rf_H) : Option (List Value × rf_H) :=
  if kd = 10 then (match st with
    | .ref _ :: r => if rf_ok8 r d 12 = true then some (r, h) else none
    | _ => none)
  else if kd = 11 then (match st with
    | .int n :: .int dp :: .ref a1 :: .int sp :: .ref a2 :: r => if rf_ok8 r d 18 = true ∧ ¬ a1 < cx.2.2.2.2 ∧ ¬ a2 < cx.2.2.2.2 ∧ ¬ sp < 0 ∧ ¬ dp < 0 ∧ ¬ n < 0 then (match rf_aa h a1, rf_aa h a2 with
      | some (.int, n1), some (.int, n2) => if sp.toNatClampNeg + n.toNatClampNeg ≤ n2 ∧ dp.toNatClampNeg + n.toNatClampNeg ≤ n1 then some (r, ((va_up h.1.1 a1 (va_cpy (h.1.1 a2) (h.1.1 a1) sp.toNatClampNeg dp.toNatClampNeg n.toNatClampNeg), h.1.2.1, h.1.2.2), h.2)) else none
      | some (.long, n1), some (.long, n2) => if sp.toNatClampNeg + n.toNatClampNeg ≤ n2 ∧ dp.toNatClampNeg + n.toNatClampNeg ≤ n1 then some (r, ((h.1.1, va_up h.1.2.1 a1 (va_cpy (h.1.2.1 a2) (h.1.2.1 a1) sp.toNatClampNeg dp.toNatClampNeg n.toNatClampNeg), h.1.2.2), h.2)) else none
      | _, _ => none) else none
    | _ => none)
  else if kd = 12 then (match st with
    | .int y :: .int x :: r => if rf_ok8 r d 13 = true then some (.int (if y < x then y else x) :: r, h) else none
    | _ => none)
  else if kd = 13 then (match st with
    | .int y :: .int x :: r => if rf_ok8 r d 13 = true then some (.int (if x < y then y else x) :: r, h) else none
    | _ => none)
  else none
/-- calls: the callee, its arguments, what lies below them. aux: (kind, number of parameters), then (key of the receiver's class, callee) -/
def rf_ca (cx : rf_C) (I : Instr) (aux : List (Int × Nat)) (st : List Value) (h : rf_H) : Option (Nat × List Value × List Value) := match aux with
  | q :: tg => (match I, st.drop q.2 with
    | .invokevirtual _, .ref a :: r => (match rf_ob h a with
      | some ci => (match rf_lk tg (rf_ky cx.2.2.2.2 a ci) with
        | some j => if q.2 ≤ st.length ∧ (r.map fun v => v.category).sum ≤ 8 then some (j, .ref a :: (st.take q.2).reverse, r) else none
        | none => none)
      | none => none)
    | .invokespecial _, .ref a :: r => (match tg with
      | [(_, j)] => if q.2 ≤ st.length ∧ (r.map fun v => v.category).sum ≤ 8 then some (j, .ref a :: (st.take q.2).reverse, r) else none
      | _ => none)
    | .invokestatic _, r => (match tg with
      | [(_, j)] => if q.2 ≤ st.length ∧ (r.map fun v => v.category).sum ≤ 8 then some (j, (st.take q.2).reverse, r) else none
      | _ => none)
    | _, _ => none)
  | [] => none
def rf_len : Instr → Nat
  | .bipush _ => 2
  | .iload _ => 2
  | .lload _ => 2
  | .aload _ => 2
  | .istore _ => 2
  | .lstore _ => 2
  | .astore _ => 2
  | .newarray _ => 2
  | .ldc _ => 2
  | .sipush _ => 3
  | .iinc _ _ => 3
  | .goto _ => 3
  | .ifCond _ _ => 3
  | .if_icmp _ _ => 3
  | .if_acmp _ _ => 3
  | .ifnull _ => 3
  | .ifnonnull _ => 3
  | .getfield _ => 3
  | .putfield _ => 3
  | .getstatic _ => 3
  | .new _ => 3
  | .anewarray _ => 3
  | .ldc2_w _ => 3
  | .invokevirtual _ => 3
  | .invokespecial _ => 3
  | .invokestatic _ => 3
  | _ => 1
/-- what kind of instruction: 0 arithmetic, 1 loads, 2 stores, 3 branches, 4 heap, 5 calls, 6 answers, 7 constants of the pool -/
def rf_kd : Instr → Nat
  | .iconst _ => 1
  | .bipush _ => 1
  | .sipush _ => 1
  | .lconst _ => 1
  | .iload_n _ => 1
  | .iload _ => 1
  | .lload_n _ => 1
  | .lload _ => 1
  | .aload_n _ => 1
  | .aload _ => 1
  | .istore_n _ => 2
  | .istore _ => 2
  | .lstore_n _ => 2
  | .lstore _ => 2
  | .astore_n _ => 2
  | .astore _ => 2
  | .iinc _ _ => 2
  | .goto _ => 3
  | .ifCond _ _ => 3
  | .if_icmp _ _ => 3
  | .if_acmp _ _ => 3
  | .ifnull _ => 3
  | .ifnonnull _ => 3
  | .tableswitch _ _ _ _ => 3
  | .lookupswitch _ _ => 3
  | .getfield _ => 4
  | .putfield _ => 4
  | .iaload => 4
  | .laload => 4
  | .baload => 4
  | .caload => 4
  | .saload => 4
  | .aaload => 4
  | .iastore => 4
  | .lastore => 4
  | .bastore => 4
  | .castore => 4
  | .aastore => 4
  | .arraylength => 4
  | .new _ => 4
  | .newarray _ => 4
  | .anewarray _ => 4
  | .invokevirtual _ => 5
  | .invokespecial _ => 5
  | .invokestatic _ => 5
  | .ireturn => 6
  | .lreturn => 6
  | .areturn => 6
  | .return_ => 6
  | .ldc _ => 7
  | .ldc2_w _ => 7
  | .getstatic _ => 7
  | _ => 0
/-- constants of the pool: aux tells the value; (0, k): int k; (1, k): long k; (2, a): the cell a; a first part of minus one: negative -/
def rf_po (aux : List (Int × Nat)) (st : List Value) : Option (List Value) := match aux with
  | [(0, k)] => some (.int (Int32.ofNat k) :: st)
  | [(1, k)] => some (.long (Int64.ofNat k) :: st)
  | [(2, a)] => some (.ref a :: st)
  | [(3, _)] => some (.null :: st)
  | _ => none
def rf_ex (cx : rf_C) (d : Nat × Nat) (i pc : Nat) (I : rf_I) (ls : rf_L) (st : List Value) (h : rf_H) : Option rf_O := match rf_kd I.1 with
  | 0 => (rf_ar I.1 st).map (fun q => .inl (pc + 1, ls, q, h))
  | 1 => (rf_lo I.1 I.2 ls st).map (fun q => .inl (pc + rf_len I.1, ls, q, h))
  | 2 => (rf_so I.1 (cx.2.1 i).2.2.1 ls st).map (fun q => .inl (pc + rf_len I.1, q.1, q.2, h))
  | 3 => (rf_br cx.2.2.2.2 I.1 I.2 pc st).map (fun q => .inl (q.1, ls, q.2, h))
  | 4 => (rf_hp cx I.1 I.2 st h).map (fun q => .inl (pc + rf_len I.1, ls, q.1, q.2))
  | 5 => if 10 ≤ (I.2.headD (0, 0)).1 then (rf_bi cx (I.2.headD (0, 0)).1 d st h).map (fun q => .inl (pc + 3, ls, q.1, q.2)) else (rf_ca cx I.1 I.2 st h).map (fun q => .inr (.inl q))
  | 6 => (rf_rt I.1 (cx.2.1 i).2.2.2 st).map (fun v => .inr (.inr v))
  | 7 => (rf_po I.2 st).map (fun q => .inl (pc + rf_len I.1, ls, q, h))
  | _ => none
/-- the evaluator: fuel, room (frames, locals), method, place, locals, stack, heap -/
def rf_ev (cx : rf_C) : Nat → Nat × Nat → Nat → Nat → rf_L → List Value → rf_H → Option (Option Value × rf_H)
  | 0, _, _, _, _, _, _ => none
  | n + 1, d, i, pc, ls, st, h => match cx.1 i pc with
    | none => none
    | some I => match rf_ex cx d i pc I ls st h with
      | none => none
      | some (.inl q) => rf_ev cx n d i q.1 q.2.1 q.2.2.1 q.2.2.2
      | some (.inr (.inl q)) => if 1 ≤ d.1 ∧ (cx.2.1 q.1).2.2.1 + 19 ≤ d.2 ∧ (lg_sl q.2.1).length ≤ (cx.2.1 q.1).2.2.1 then (match rf_ev cx n (d.1 - 1, d.2 - ((cx.2.1 q.1).2.2.1 + 19)) q.1 0 (lv_args 0 q.2.1) [] h with
        | none => none
        | some r => rf_ev cx n d i (pc + 3) ls (r.1.toList ++ q.2.2) r.2) else none
      | some (.inr (.inr v)) => some (v, h)
end
section
/-! THE REFLECTION IS TRUE: instructions without the heap -/
theorem rf_ld_ok {ad : Nat → Nat} {lsA : rf_L} {lsM : Array Slot} {nL i : Nat} {v : Value} (h : rf_ld lsA i = some v) (hl : lv_has lsM nL (lsA.map (fun q => (q.1, rf_cv ad q.2)))) : lsM[i]? = some (.val (rf_cv ad v)) := by
  unfold rf_ld at h
  cases hf : lsA.find? (fun q => q.1 == i) with
  | none => rw [hf] at h; cases h
  | some q =>
    rw [hf] at h
    have hv : q.2 = v := Option.some.inj h
    have hm := List.mem_of_find?_eq_some hf
    have hi : q.1 = i := by simpa using List.find?_some hf
    rw [← hi, ← hv]
    exact hl.2.2 (q.1, rf_cv ad q.2) (List.mem_map.mpr ⟨q, hm, rfl⟩)
theorem rf_ld_ix {ad : Nat → Nat} {lsA : rf_L} {i : Nat} {v : Value} (h : rf_ld lsA i = some v) : ∃ j : Nat, (lsA.map (fun q => (q.1, rf_cv ad q.2)))[j]? = some (i, rf_cv ad v) := by
  unfold rf_ld at h
  cases hf : lsA.find? (fun q => q.1 == i) with
  | none => rw [hf] at h; cases h
  | some q =>
    rw [hf] at h
    have hv : q.2 = v := Option.some.inj h
    have hm := List.mem_of_find?_eq_some hf
    have hi : q.1 = i := by simpa using List.find?_some hf
    apply List.getElem?_of_mem
    refine List.mem_map.mpr ⟨q, hm, ?_⟩
    rw [hv, hi]
theorem rf_s1_map (ad : Nat → Nat) (ls : rf_L) (i : Nat) (v : Value) : (i, rf_cv ad v) :: (ls.map (fun q => (q.1, rf_cv ad q.2))).filter (fun q => !(q.1 == i) && !(q.1 + 1 == i && q.2.category == 2)) = (rf_s1 ls i v).map (fun q => (q.1, rf_cv ad q.2)) := by
  unfold rf_s1
  rw [List.map_cons, List.filter_map]
  congr 2
  apply List.filter_congr
  intro q _
  simp [Function.comp, rf_cat]
theorem rf_s2_map (ad : Nat → Nat) (ls : rf_L) (i : Nat) (v : Value) : (i, rf_cv ad v) :: (ls.map (fun q => (q.1, rf_cv ad q.2))).filter (fun q => !(q.1 == i) && (!(q.1 == i + 1) && !(q.1 + 1 == i && q.2.category == 2))) = (rf_s2 ls i v).map (fun q => (q.1, rf_cv ad q.2)) := by
  unfold rf_s2
  rw [List.map_cons, List.filter_map]
  congr 2
  apply List.filter_congr
  intro q _
  simp [Function.comp, rf_cat]
section RFA
variable {p : Program} {l : Launch} {e : Env} {R : Room} {s : State} {m : MethodId} {args : Array Value} {below : List Frame} {meth : Method} {c : Code} {H : Heap} {locs : List Loc} {cells slots : Nat} {Q : State → Prop}
variable {cc : ByteArray} {pc : Nat} {ls : Array Slot}
set_option maxHeartbeats 4000000 in
theorem rf_ar_ok (hx : p.tables.exec = Jvm.exec) (hb : c.code = cc) (ad : Nat → Nat) {I : Instr} {st st' : List Value} (h : rf_ar I st = some st') (hd : decode cc pc = .ok (I, 1))
    (k : W p l e R s m args below meth c H locs cells slots Q (F0 m (pc + 1) ls (st'.map (rf_cv ad)))) : W p l e R s m args below meth c H locs cells slots Q (F0 m pc ls (st.map (rf_cv ad))) := by
  unfold rf_ar at h
  split at h
  · cases h; exact lv_iadd hx hb hd k
  · cases h; exact lv_isub hx hb hd k
  · cases h; exact lv_imul hx hb hd k
  · cases h; exact lv_iand hx hb hd k
  · cases h; exact lv_ior hx hb hd k
  · cases h; exact lv_ixor hx hb hd k
  · split at h
    · cases h
    · rename_i hc; cases h; exact lv_idiv hx hb hd hc k
  · split at h
    · cases h
    · rename_i hc; cases h; exact lv_irem hx hb hd hc k
  · cases h; exact lv_ineg hx hb hd k
  · cases h; exact lv_ishl hx hb hd k
  · cases h; exact lv_ishr hx hb hd k
  · cases h; exact lv_iushr hx hb hd rfl k
  · cases h; exact lv_ladd hx hb hd k
  · cases h; exact lv_lsub hx hb hd k
  · cases h; exact lv_lmul hx hb hd k
  · cases h; exact lv_land hx hb hd k
  · cases h; exact lv_lor hx hb hd k
  · cases h; exact lv_lxor hx hb hd k
  · split at h
    · cases h
    · rename_i hc; cases h; exact lv_ldiv hx hb hd hc k
  · split at h
    · cases h
    · rename_i hc; cases h; exact lv_lrem hx hb hd hc k
  · cases h; exact lv_lneg hx hb hd k
  · cases h; exact lv_lshl hx hb hd rfl k
  · cases h; exact lv_lshr hx hb hd rfl k
  · cases h; exact lv_lushr hx hb hd rfl k
  · cases h; exact W.lcmp hx hb hd k
  · cases h; exact lv_i2l hx hb hd rfl k
  · cases h; exact lv_l2i hx hb hd rfl k
  · cases h; exact lv_i2b hx hb hd rfl k
  · cases h; exact lv_i2s hx hb hd rfl k
  · cases h; exact lv_i2c hx hb hd rfl k
  · split at h
    · rename_i hc; cases h; exact lv_dup hx hb hd (by rw [rf_cat]; exact hc) k
    · cases h
  · split at h
    · rename_i hc; cases h; exact lv_pop hx hb hd (by rw [rf_cat]; exact hc) k
    · cases h
  · split at h
    · rename_i hc; cases h; exact lv_pop2_2 hx hb hd (by rw [rf_cat]; exact hc) k
    · cases h
  · split at h
    · rename_i hc; cases h; exact lv_dup_x1 hx hb hd (by rw [rf_cat]; exact hc.1) (by rw [rf_cat]; exact hc.2) k
    · cases h
  · split at h
    · rename_i hc; cases h; exact lv_dup_x2 hx hb hd (by rw [rf_cat]; exact hc.1) (by rw [rf_cat]; exact hc.2.1) (by rw [rf_cat]; exact hc.2.2) k
    · cases h
  · split at h
    · rename_i hc; cases h; exact lv_dup2_11 hx hb hd (by rw [rf_cat]; exact hc.1) (by rw [rf_cat]; exact hc.2) k
    · split at h
      · rename_i hc; cases h; exact lv_dup2_2 hx hb hd (by rw [rf_cat]; exact hc) k
      · cases h
  · cases h; exact lv_null hx hb hd k
  · cases h
set_option maxHeartbeats 4000000 in
theorem rf_lo_ok (hx : p.tables.exec = Jvm.exec) (hb : c.code = cc) (ad : Nat → Nat) {I : Instr} {aux : List (Int × Nat)} {nL : Nat} {lsA : rf_L} {st st' : List Value} (h : rf_lo I aux lsA st = some st') (hd : decode cc pc = .ok (I, rf_len I)) (hl : lv_has ls nL (lsA.map (fun q => (q.1, rf_cv ad q.2))))
    (k : W p l e R s m args below meth c H locs cells slots Q (F0 m (pc + rf_len I) ls (st'.map (rf_cv ad)))) : W p l e R s m args below meth c H locs cells slots Q (F0 m pc ls (st.map (rf_cv ad))) := by
  have hI : ∀ {i : Nat}, rf_li lsA i st = some st' → ∃ x : Int32, ls[i]? = some (.val (.int x)) ∧ st' = .int x :: st := by
    intro i h
    unfold rf_li at h
    split at h
    · rename_i x hx; cases h; exact ⟨x, rf_ld_ok hx hl, rfl⟩
    · cases h
  have hL : ∀ {i : Nat}, rf_ll lsA i st = some st' → ∃ x : Int64, ls[i]? = some (.val (.long x)) ∧ st' = .long x :: st := by
    intro i h
    unfold rf_ll at h
    split at h
    · rename_i x hx; cases h; exact ⟨x, rf_ld_ok hx hl, rfl⟩
    · cases h
  have hA : ∀ {i : Nat}, rf_la lsA i st = some st' → (∃ x : Nat, ls[i]? = some (.val (.ref (ad x))) ∧ st' = .ref x :: st) ∨ (ls[i]? = some (.val .null) ∧ st' = .null :: st) := by
    intro i h
    unfold rf_la at h
    split at h
    · rename_i x hx; cases h; exact Or.inl ⟨x, rf_ld_ok hx hl, rfl⟩
    · rename_i hx; cases h; exact Or.inr ⟨rf_ld_ok hx hl, rfl⟩
    · cases h
  unfold rf_lo at h
  split at h
  · cases h; exact lv_iconst hx hb hd rfl k
  · cases h; exact lv_bipush hx hb hd rfl k
  · cases h; exact lv_sipush hx hb hd rfl k
  · cases h; exact lv_lconst hx hb hd rfl k
  · obtain ⟨x, h1, rfl⟩ := hI h; exact lv_iload_n hx hb hd rfl h1 k
  · obtain ⟨x, h1, rfl⟩ := hI h; exact lv_iload hx hb hd h1 k
  · obtain ⟨x, h1, rfl⟩ := hL h; exact lv_lload_n hx hb hd rfl h1 k
  · obtain ⟨x, h1, rfl⟩ := hL h; exact lv_lload hx hb hd h1 k
  · rcases hA h with ⟨x, h1, rfl⟩ | ⟨h1, rfl⟩
    · exact lv_aload_n hx hb hd rfl h1 k
    · exact lv_aload_nN hx hb hd rfl h1 k
  · rcases hA h with ⟨x, h1, rfl⟩ | ⟨h1, rfl⟩
    · exact lv_aload hx hb hd h1 k
    · exact lv_aloadN hx hb hd h1 k
  · cases h
set_option maxHeartbeats 4000000 in
theorem rf_so_ok (hx : p.tables.exec = Jvm.exec) (hb : c.code = cc) (ad : Nat → Nat) {I : Instr} {nL : Nat} {lsA : rf_L} {st : List Value} {q' : rf_L × List Value} (h : rf_so I nL lsA st = some q') (hd : decode cc pc = .ok (I, rf_len I)) (hl : lv_has ls nL (lsA.map (fun q => (q.1, rf_cv ad q.2))))
    (k : ∀ ls' : Array Slot, lv_has ls' nL (q'.1.map (fun q => (q.1, rf_cv ad q.2))) → W p l e R s m args below meth c H locs cells slots Q (F0 m (pc + rf_len I) ls' (q'.2.map (rf_cv ad)))) : W p l e R s m args below meth c H locs cells slots Q (F0 m pc ls (st.map (rf_cv ad))) := by
  unfold rf_so at h
  split at h
  · split at h
    · rename_i k1 x r hc; cases h; exact lv_istore_n hx hb hd rfl hl hc (rf_s1_map ad lsA (k1 : Nat) (.int x)) k
    · cases h
  · split at h
    · rename_i k1 x r hc; cases h; exact lv_istore hx hb hd hl hc (rf_s1_map ad lsA k1 (.int x)) k
    · cases h
  · split at h
    · rename_i k1 x r hc; cases h; exact lv_lstore_n hx hb hd rfl hl hc (rf_s2_map ad lsA (k1 : Nat) (.long x)) k
    · cases h
  · split at h
    · rename_i k1 x r hc; cases h; exact lv_lstore hx hb hd hl hc (rf_s2_map ad lsA k1 (.long x)) k
    · cases h
  · split at h
    · rename_i k1 x r hc; cases h; exact lv_astore_n hx hb hd rfl hl hc (rf_s1_map ad lsA (k1 : Nat) (.ref x)) k
    · cases h
  · split at h
    · rename_i k1 x r hc; cases h; exact lv_astore hx hb hd hl hc (rf_s1_map ad lsA k1 (.ref x)) k
    · cases h
  · split at h
    · rename_i k1 r hc; cases h; exact lv_astore_nN hx hb hd rfl hl hc (rf_s1_map ad lsA (k1 : Nat) .null) k
    · cases h
  · split at h
    · rename_i k1 r hc; cases h; exact lv_astoreN hx hb hd hl hc (rf_s1_map ad lsA k1 .null) k
    · cases h
  · split at h
    · rename_i x hx2
      split at h
      · rename_i hc
        cases h
        obtain ⟨j, hj⟩ := rf_ld_ix (ad := ad) hx2
        exact lv_iinc hx hb hd hl hj rfl hc (rf_s1_map ad lsA _ (.int _)) k
      · cases h
    · cases h
  · cases h
/-- what a table of code says of its branches -/
def rf_wb (I : Instr) (aux : List (Int × Nat)) (pc : Nat) : Bool := match I with
  | .goto o => decide ((pc : Int) + o = (rf_tg aux : Int))
  | .ifCond _ o => decide ((pc : Int) + o = (rf_tg aux : Int))
  | .if_icmp _ o => decide ((pc : Int) + o = (rf_tg aux : Int))
  | .if_acmp _ o => decide ((pc : Int) + o = (rf_tg aux : Int))
  | .ifnull o => decide ((pc : Int) + o = (rf_tg aux : Int))
  | .ifnonnull o => decide ((pc : Int) + o = (rf_tg aux : Int))
  | .tableswitch d _ _ offs => decide ((rf_tg aux : Int) = (pc : Int) + d) && decide (aux.tail.map (fun q => (q.2 : Int)) = offs.toList.map (fun o => (pc : Int) + o))
  | .lookupswitch d ps => decide ((rf_tg aux : Int) = (pc : Int) + d) && decide (aux.tail.map (fun q => (q.1, (q.2 : Int))) = ps.toList.map (fun o => (o.1, (pc : Int) + o.2))) && (ps.toList.zip (ps.toList.drop 1)).all (fun (a, next) => a.1 < next.1)
  | _ => true
theorem rf_sw_ok (pc : Int) (d : Int) (dt : Nat) (hd : (dt : Int) = pc + d) (x : Int) : ∀ (aux : List (Int × Nat)) (ps : List (Int × Int)), aux.map (fun q => (q.1, (q.2 : Int))) = ps.map (fun o => (o.1, pc + o.2)) → pc + Op.lookupswitch.offset ps d x = (rf_sw aux dt x : Int) := by
  intro aux
  induction aux with
  | nil =>
    intro ps h
    cases ps with
    | nil => exact hd.symm
    | cons a r => simp at h
  | cons q r ih =>
    intro ps h
    cases ps with
    | nil => simp at h
    | cons a t =>
      obtain ⟨a1, a2⟩ := a
      simp only [List.map_cons, List.cons.injEq, Prod.mk.injEq] at h
      obtain ⟨⟨h1, h2⟩, h3⟩ := h
      rw [Op.lookupswitch.offset_cons]
      unfold rf_sw
      by_cases hk : a1 = x
      · rw [if_pos hk, if_pos (h1.trans hk)]
        exact h2.symm
      · rw [if_neg hk, if_neg (fun z => hk (h1.symm.trans z))]
        exact ih t h3
theorem rf_cc_ok {x y : Int32} {b : Bool} : (rf_cc x y .eq = true ↔ x = y) ∧ (rf_cc x y .ne = true ↔ ¬ x = y) ∧ (rf_cc x y .lt = true ↔ x < y) ∧ (rf_cc x y .ge = true ↔ y ≤ x) ∧ (rf_cc x y .gt = true ↔ y < x) ∧ (rf_cc x y .le = true ↔ x ≤ y) := by
  simp [rf_cc]
set_option maxHeartbeats 4000000 in
theorem rf_br_ok (hx : p.tables.exec = Jvm.exec) (hb : c.code = cc) (ad : Nat → Nat) {a0 : Nat} (hin : ∀ x y : Nat, a0 ≤ x → a0 ≤ y → ad x = ad y → x = y) {I : Instr} {aux : List (Int × Nat)} {st : List Value} {q' : Nat × List Value} (h : rf_br a0 I aux pc st = some q') {len : Nat} (hd : decode cc pc = .ok (I, len)) (hlen : len = rf_len I ∨ (∃ a b c d, I = .tableswitch a b c d) ∨ ∃ a b, I = .lookupswitch a b) (hw : rf_wb I aux pc = true)
    (k : W p l e R s m args below meth c H locs cells slots Q (F0 m q'.1 ls (q'.2.map (rf_cv ad)))) : W p l e R s m args below meth c H locs cells slots Q (F0 m pc ls (st.map (rf_cv ad))) := by
  have hl3 : rf_len I = 3 → (∀ a b c d, I ≠ .tableswitch a b c d) → (∀ a b, I ≠ .lookupswitch a b) → len = 3 := by
    intro h1 h2 h3
    rcases hlen with h4 | ⟨a1, b1, c1, d1, h4⟩ | ⟨a1, b1, h4⟩
    · rw [h4, h1]
    · exact absurd h4 (h2 _ _ _ _)
    · exact absurd h4 (h3 _ _)
  unfold rf_br at h
  split at h
  · have e3 := hl3 rfl (fun _ _ _ _ => by simp) (fun _ _ => by simp)
    subst e3
    cases h; exact lv_goto hx hb hd (of_decide_eq_true hw) k
  · rename_i cnd o x r
    have e3 := hl3 rfl (fun _ _ _ _ => by simp) (fun _ _ => by simp)
    subst e3
    cases h
    have ht := of_decide_eq_true hw
    cases cnd
    · refine lv_if_eq hx hb hd ht (fun hc => ?_) (fun hc => ?_)
      · rw [if_pos (by simp [rf_cc, hc])] at k; exact k
      · rw [if_neg (by simp [rf_cc, hc])] at k; exact k
    · refine lv_if_ne hx hb hd ht (fun hc => ?_) (fun hc => ?_)
      · rw [if_pos (by simp [rf_cc, hc])] at k; exact k
      · rw [if_neg (by simp [rf_cc, hc])] at k; exact k
    · refine lv_if_lt hx hb hd ht (fun hc => ?_) (fun hc => ?_)
      · rw [if_pos (by simp only [rf_cc, decide_eq_true_eq]; exact hc)] at k; exact k
      · rw [if_neg (by simp only [rf_cc, decide_eq_true_eq]; exact hc)] at k; exact k
    · refine lv_if_ge hx hb hd ht (fun hc => ?_) (fun hc => ?_)
      · rw [if_pos (by simp only [rf_cc, decide_eq_true_eq]; exact hc)] at k; exact k
      · rw [if_neg (by simp only [rf_cc, decide_eq_true_eq]; exact hc)] at k; exact k
    · refine lv_if_gt hx hb hd ht (fun hc => ?_) (fun hc => ?_)
      · rw [if_pos (by simp only [rf_cc, decide_eq_true_eq]; exact hc)] at k; exact k
      · rw [if_neg (by simp only [rf_cc, decide_eq_true_eq]; exact hc)] at k; exact k
    · refine lv_if_le hx hb hd ht (fun hc => ?_) (fun hc => ?_)
      · rw [if_pos (by simp only [rf_cc, decide_eq_true_eq]; exact hc)] at k; exact k
      · rw [if_neg (by simp only [rf_cc, decide_eq_true_eq]; exact hc)] at k; exact k
  · rename_i cnd o y x r
    have e3 := hl3 rfl (fun _ _ _ _ => by simp) (fun _ _ => by simp)
    subst e3
    cases h
    have ht := of_decide_eq_true hw
    cases cnd
    · refine lv_icmp_eq hx hb hd ht (fun hc => ?_) (fun hc => ?_)
      · rw [if_pos (by simp [rf_cc, hc])] at k; exact k
      · rw [if_neg (by simp [rf_cc, hc])] at k; exact k
    · refine lv_icmp_ne hx hb hd ht (fun hc => ?_) (fun hc => ?_)
      · rw [if_pos (by simp [rf_cc, hc])] at k; exact k
      · rw [if_neg (by simp [rf_cc, hc])] at k; exact k
    · refine lv_icmp_lt hx hb hd ht (fun hc => ?_) (fun hc => ?_)
      · rw [if_pos (by simp only [rf_cc, decide_eq_true_eq]; exact hc)] at k; exact k
      · rw [if_neg (by simp only [rf_cc, decide_eq_true_eq]; exact hc)] at k; exact k
    · refine lv_icmp_ge hx hb hd ht (fun hc => ?_) (fun hc => ?_)
      · rw [if_pos (by simp only [rf_cc, decide_eq_true_eq]; exact hc)] at k; exact k
      · rw [if_neg (by simp only [rf_cc, decide_eq_true_eq]; exact hc)] at k; exact k
    · refine lv_icmp_gt hx hb hd ht (fun hc => ?_) (fun hc => ?_)
      · rw [if_pos (by simp only [rf_cc, decide_eq_true_eq]; exact hc)] at k; exact k
      · rw [if_neg (by simp only [rf_cc, decide_eq_true_eq]; exact hc)] at k; exact k
    · refine lv_icmp_le hx hb hd ht (fun hc => ?_) (fun hc => ?_)
      · rw [if_pos (by simp only [rf_cc, decide_eq_true_eq]; exact hc)] at k; exact k
      · rw [if_neg (by simp only [rf_cc, decide_eq_true_eq]; exact hc)] at k; exact k
  · have e3 := hl3 rfl (fun _ _ _ _ => by simp) (fun _ _ => by simp)
    subst e3
    cases h; exact lv_ifnull hx hb hd k
  · have e3 := hl3 rfl (fun _ _ _ _ => by simp) (fun _ _ => by simp)
    subst e3
    cases h; exact lv_ifnullN hx hb hd (of_decide_eq_true hw) k
  · have e3 := hl3 rfl (fun _ _ _ _ => by simp) (fun _ _ => by simp)
    subst e3
    cases h; exact lv_ifnonnull hx hb hd (of_decide_eq_true hw) k
  · have e3 := hl3 rfl (fun _ _ _ _ => by simp) (fun _ _ => by simp)
    subst e3
    cases h; exact lv_ifnonnullN hx hb hd k
  · rename_i o y x r
    have e3 := hl3 rfl (fun _ _ _ _ => by simp) (fun _ _ => by simp)
    subst e3
    split at h
    · cases h
    rename_i hge
    have g1 : a0 ≤ x := Nat.not_lt.mp fun z => hge (Or.inl z)
    have g2 : a0 ≤ y := Nat.not_lt.mp fun z => hge (Or.inr z)
    cases h
    refine lv_acmp_eq (rx := some (ad x)) (ry := some (ad y)) hx hb hd (of_decide_eq_true hw) (fun hc => ?_) (fun hc => ?_)
    · have hxy := hin x y g1 g2 (Option.some.inj hc)
      rw [if_pos hxy] at k; exact k
    · have hxy : ¬ x = y := fun z => hc (by rw [z])
      rw [if_neg hxy] at k; exact k
  · rename_i o y x r
    have e3 := hl3 rfl (fun _ _ _ _ => by simp) (fun _ _ => by simp)
    subst e3
    split at h
    · cases h
    rename_i hge
    have g1 : a0 ≤ x := Nat.not_lt.mp fun z => hge (Or.inl z)
    have g2 : a0 ≤ y := Nat.not_lt.mp fun z => hge (Or.inr z)
    cases h
    refine lv_acmp_ne (rx := some (ad x)) (ry := some (ad y)) hx hb hd (of_decide_eq_true hw) (fun hc => ?_) (fun hc => ?_)
    · have hxy : ¬ x = y := fun z => hc (by rw [z])
      rw [if_neg hxy] at k; exact k
    · have hxy := hin x y g1 g2 (Option.some.inj hc)
      rw [if_pos hxy] at k; exact k
  · have e3 := hl3 rfl (fun _ _ _ _ => by simp) (fun _ _ => by simp)
    subst e3
    cases h
    exact lv_acmp_eq (rx := none) (ry := none) hx hb hd (of_decide_eq_true hw) (fun hc => k) (fun hc => absurd rfl hc)
  · have e3 := hl3 rfl (fun _ _ _ _ => by simp) (fun _ _ => by simp)
    subst e3
    cases h
    exact lv_acmp_eq (rx := some (ad _)) (ry := none) hx hb hd (of_decide_eq_true hw) (fun hc => absurd hc (by simp)) (fun hc => k)
  · have e3 := hl3 rfl (fun _ _ _ _ => by simp) (fun _ _ => by simp)
    subst e3
    cases h
    exact lv_acmp_eq (rx := none) (ry := some (ad _)) hx hb hd (of_decide_eq_true hw) (fun hc => absurd hc (by simp)) (fun hc => k)
  · have e3 := hl3 rfl (fun _ _ _ _ => by simp) (fun _ _ => by simp)
    subst e3
    cases h
    exact lv_acmp_ne (rx := none) (ry := none) hx hb hd (of_decide_eq_true hw) (fun hc => absurd rfl hc) (fun hc => k)
  · have e3 := hl3 rfl (fun _ _ _ _ => by simp) (fun _ _ => by simp)
    subst e3
    cases h
    exact lv_acmp_ne (rx := some (ad _)) (ry := none) hx hb hd (of_decide_eq_true hw) (fun hc => k) (fun hc => absurd hc (by simp))
  · have e3 := hl3 rfl (fun _ _ _ _ => by simp) (fun _ _ => by simp)
    subst e3
    cases h
    exact lv_acmp_ne (rx := none) (ry := some (ad _)) hx hb hd (of_decide_eq_true hw) (fun hc => k) (fun hc => absurd hc (by simp))
  · rename_i d lo hi offs x r
    unfold rf_wb at hw
    simp only [Bool.and_eq_true, decide_eq_true_eq] at hw
    split at h
    · rename_i ho
      cases h
      exact lv_tableOut hx hb hd ho hw.1.symm k
    · rename_i ho
      have ho1 : ¬ x.toInt < lo := fun z => ho (Or.inl z)
      have ho2 : ¬ hi < x.toInt := fun z => ho (Or.inr z)
      split at h
      · rename_i q hq
        cases h
        cases aux with
        | nil => simp at hq
        | cons a0 t0 =>
          simp only [List.getElem?_cons_succ] at hq
          have h2 : (t0.map (fun q => (q.2 : Int)))[(x.toInt - lo).toNat]? = some (q.2 : Int) := by rw [List.getElem?_map, hq]; rfl
          have h3 := hw.2
          simp only [List.tail_cons] at h3
          rw [h3, List.getElem?_map] at h2
          cases h4 : offs.toList[(x.toInt - lo).toNat]? with
          | none => rw [h4] at h2; cases h2
          | some off =>
            rw [h4] at h2
            exact lv_tableIn hx hb hd ho1 ho2 (by rw [← Array.getElem?_toList]; exact h4) (Option.some.inj h2) k
      · cases h
  · rename_i d ps x r
    unfold rf_wb at hw
    simp only [Bool.and_eq_true, decide_eq_true_eq] at hw
    cases h
    exact lv_lookup hx hb hd hw.2 rfl (rf_sw_ok _ _ _ hw.1.1 _ _ _ hw.1.2) k
  · cases h
end RFA
end
section
/-! THE REFLECTION IS TRUE: the heap -/
/-- a cell that the law or the class made -/
def rf_at (D : va_G) (cx : rf_C) (ad : Nat → Nat) (U : State) (H : Heap) (M : rf_M) (a : Nat) (sh : rf_S) : Prop := match sh with
  | .inl ci => ∃ r : vw_C, cx.2.2.2.1[ci]? = some r ∧ t_OB (ad a) (D.1 ci) r.2.2 (D.2 ci) H (fun k => rf_cv ad (rf_rd M (cx.2.2.1 (ci : Int) k) a k))
  | .inr q => ∃ cA : ClassId, H[ad a]? = some (arrV cA q.2 (fun j => rf_cv ad (rf_rd M q.1 a j))) ∧ ArrOfT U cA q.1 ∧ va_RA U cA q.1
/-- a cell that is only read: a constant text, its bytes, the script -/
def rf_ao (ocl : List vw_C) (cx : rf_C) (ad : Nat → Nat) (U : State) (H : Heap) (M : rf_M) (a : Nat) (sh : rf_S) : Prop := match sh with
  | .inl ci => ∃ r : vw_C, ocl[ci]? = some r ∧ (∃ cell : Cell, H[ad a]? = some cell ∧ cell.vm.isStatics = false ∧ U.vm.findClass r.1 = some cell.cls) ∧ ∀ k, k < r.2.2 → ∃ (cf : ClassId) (kf : Class) (fi : Nat) (f : Field) (cell : Cell), U.fieldFound? (r.2.1 k).1 (r.2.1 k).2.1 (r.2.1 k).2.2.1 = some (cf, kf, fi, f) ∧ f.isStatic = false ∧ H[ad a]? = some cell ∧ cell.vm ≠ .unknown ∧ cell.slots[f.slot]? = some (rf_cv ad (rf_rd M (cx.2.2.1 (-(ci : Int) - 1) k) a k))
  | .inr q => ∃ cell : Cell, H[ad a]? = some cell ∧ U.isArrayOf cell q.1 ∧ cell.vm ≠ .unknown ∧ q.2 ≤ cell.slots.size ∧ cell.slots.size.toInt32 = nI q.2 ∧ ∀ j, j < q.2 → cell.slots[j]? = some (rf_cv ad (rf_rd M q.1 a j))
/-- the machine's heap holds the abstract heap -/
def rf_R (ocl : List vw_C) (OH : Heap) (D : va_G) (cx : rf_C) (ad : Nat → Nat) (base : Nat) (U : State) (H : Heap) (h : rf_H) : Prop :=
  (∀ a, cx.2.2.2.2 ≤ a → a < h.2.2.1 → rf_at D cx ad U H h.1 a (h.2.1 a)) ∧ (∀ a, 0 < a → a < cx.2.2.2.2 → rf_ao ocl cx ad U H h.1 a (h.2.1 a)) ∧ H.size = base + (h.2.2.1 - cx.2.2.2.2) ∧ cx.2.2.2.2 ≤ h.2.2.1 ∧ ∀ q : Nat, q < base → H[q]? = OH[q]?
def rf_A (cx : rf_C) (ad : Nat → Nat) (base : Nat) : Prop := (∀ a, cx.2.2.2.2 ≤ a → ad a = base + (a - cx.2.2.2.2)) ∧ (∀ a, 0 < a → a < cx.2.2.2.2 → ad a < base) ∧ 0 < cx.2.2.2.2
theorem rf_at.kept {D : va_G} {cx : rf_C} {ad : Nat → Nat} {U : State} {H H' : Heap} {M M' : rf_M} {a : Nat} {sh : rf_S} (h : rf_at D cx ad U H M a sh) (hq : H'[ad a]? = H[ad a]?) (hM : ∀ (ty : FieldType) (k : Nat), rf_rd M' ty a k = rf_rd M ty a k) : rf_at D cx ad U H' M' a sh := by
  cases sh with
  | inl ci =>
    obtain ⟨r, h1, h2⟩ := h
    exact ⟨r, h1, (h2.kept hq).to (fun k _ => by rw [hM])⟩
  | inr q =>
    obtain ⟨cA, h1, h2⟩ := h
    refine ⟨cA, ?_, h2⟩
    rw [hq, h1]
    simp only [hM]
theorem rf_ao.kept {ocl : List vw_C} {cx : rf_C} {ad : Nat → Nat} {U : State} {H H' : Heap} {M M' : rf_M} {a : Nat} {sh : rf_S} (h : rf_ao ocl cx ad U H M a sh) (hq : H'[ad a]? = H[ad a]?) (hM : ∀ (ty : FieldType) (k : Nat), rf_rd M' ty a k = rf_rd M ty a k) : rf_ao ocl cx ad U H' M' a sh := by
  cases sh with
  | inl ci =>
    obtain ⟨r, h1, h2, h3⟩ := h
    refine ⟨r, h1, by rw [hq]; exact h2, fun k hk => ?_⟩
    obtain ⟨cf, kf, fi, f, cell, g1, g2, g3, g4, g5⟩ := h3 k hk
    exact ⟨cf, kf, fi, f, cell, g1, g2, by rw [hq]; exact g3, g4, by rw [hM]; exact g5⟩
  | inr q =>
    obtain ⟨cell, h1, h2, h3, h4, h4', h5⟩ := h
    exact ⟨cell, by rw [hq]; exact h1, h2, h3, h4, h4', fun j hj => by rw [hM]; exact h5 j hj⟩
theorem rf_at.moved {D : va_G} {cx : rf_C} {ad : Nat → Nat} {u U : State} {H : Heap} {M : rf_M} {a : Nat} {sh : rf_S} (hvm : u.vm.Alike U.vm) (h : rf_at D cx ad u H M a sh) : rf_at D cx ad U H M a sh := by
  cases sh with
  | inl ci => exact h
  | inr q =>
    obtain ⟨cA, h1, h2, h3⟩ := h
    exact ⟨cA, h1, arrOfT_moved hvm h2, h3.moved hvm⟩
theorem rf_ao.moved {ocl : List vw_C} {cx : rf_C} {ad : Nat → Nat} {u U : State} {H : Heap} {M : rf_M} {a : Nat} {sh : rf_S} (hvm : u.vm.Alike U.vm) (h : rf_ao ocl cx ad u H M a sh) : rf_ao ocl cx ad U H M a sh := by
  cases sh with
  | inl ci =>
    obtain ⟨r, h1, ⟨cell, q1, q2, q3⟩, h3⟩ := h
    refine ⟨r, h1, ⟨cell, q1, q2, by rw [hvm.findClass]; exact q3⟩, fun k hk => ?_⟩
    obtain ⟨cf, kf, fi, f, cell, g1, g2, g3, g4, g5⟩ := h3 k hk
    obtain ⟨k', hi', he⟩ := State.fieldFound?_setVm hvm g1
    exact ⟨cf, k', fi, f, cell, hi', g2, g3, g4, g5⟩
  | inr q =>
    obtain ⟨cell, h1, h2, h3⟩ := h
    exact ⟨cell, h1, State.isArrayOf_alike hvm h2, h3⟩
theorem rf_R.moved {ocl : List vw_C} {OH : Heap} {D : va_G} {cx : rf_C} {ad : Nat → Nat} {base : Nat} {u U : State} {H : Heap} {h : rf_H} (hvm : u.vm.Alike U.vm) (hR : rf_R ocl OH D cx ad base u H h) : rf_R ocl OH D cx ad base U H h :=
  ⟨fun a h1 h2 => (hR.1 a h1 h2).moved hvm, fun a h0 h1 => (hR.2.1 a h0 h1).moved hvm, hR.2.2⟩
theorem rf_A.inj {cx : rf_C} {ad : Nat → Nat} {base : Nat} (hA : rf_A cx ad base) {x y : Nat} (h1 : cx.2.2.2.2 ≤ x) (h2 : cx.2.2.2.2 ≤ y) (h : ad x = ad y) : x = y := by
  rw [hA.1 x h1, hA.1 y h2] at h
  omega
theorem rf_A.ne {cx : rf_C} {ad : Nat → Nat} {base : Nat} (hA : rf_A cx ad base) {x y : Nat} (h1 : cx.2.2.2.2 ≤ x) (h0 : 0 < y) (h : y ≠ x) : ad y ≠ ad x := by
  by_cases h2 : cx.2.2.2.2 ≤ y
  · exact fun z => h (hA.inj h2 h1 z)
  · have h3 := hA.2.1 y h0 (Nat.not_le.mp h2)
    have h4 := hA.1 x h1
    omega
/-- one cell has changed -/
theorem rf_R.set {ocl : List vw_C} {OH : Heap} {D : va_G} {cx : rf_C} {ad : Nat → Nat} {base : Nat} {U : State} {H H' : Heap} {h : rf_H} (hR : rf_R ocl OH D cx ad base U H h) (hA : rf_A cx ad base) {a : Nat} (ha0 : cx.2.2.2.2 ≤ a) {M' : rf_M} (hz : H'.size = H.size) (ho : ∀ q : Nat, q ≠ ad a → H'[q]? = H[q]?) (hM : ∀ (ty : FieldType) (a' k : Nat), a' ≠ a → rf_rd M' ty a' k = rf_rd h.1 ty a' k) (hat : rf_at D cx ad U H' M' a (h.2.1 a)) : rf_R ocl OH D cx ad base U H' (M', h.2) := by
  obtain ⟨h1, h2, h3, h4, h6⟩ := hR
  refine ⟨fun b hb0 hb => ?_, fun b hp hb => ?_, by rw [hz]; exact h3, h4, fun q hq => (ho q ?_).trans (h6 q hq)⟩
  · by_cases hab : b = a
    · subst hab; exact hat
    · exact (h1 b hb0 hb).kept (ho _ (hA.ne ha0 (Nat.lt_of_lt_of_le hA.2.2 hb0) hab)) (fun ty k => hM ty b k hab)
  · have hab : b ≠ a := fun z => by subst z; omega
    exact (h2 b hp hb).kept (ho _ (hA.ne ha0 hp hab)) (fun ty k => hM ty b k hab)
  · have := hA.1 a ha0
    omega
theorem rf_nw_ne (h : rf_H) (sh : rf_S) (N : Nat) {a : Nat} (ha : a ≠ h.2.2.1) (ty : FieldType) (k : Nat) : rf_rd (rf_nw h sh N).1 ty a k = rf_rd h.1 ty a k := by
  cases ty <;> simp [rf_rd, rf_nw, va_up, ha]
/-- a new cell -/
theorem rf_R.new {ocl : List vw_C} {OH : Heap} {D : va_G} {cx : rf_C} {ad : Nat → Nat} {base : Nat} {U : State} {H H' : Heap} {h : rf_H} (hR : rf_R ocl OH D cx ad base U H h) (hA : rf_A cx ad base) {sh : rf_S} {N : Nat} (hz : H'.size = H.size + 1) (ho : ∀ q : Nat, q < H.size → H'[q]? = H[q]?) (hat : rf_at D cx ad U H' (rf_nw h sh N).1 h.2.2.1 sh) : rf_R ocl OH D cx ad base U H' (rf_nw h sh N) := by
  obtain ⟨h1, h2, h3, h4, h6⟩ := hR
  refine ⟨fun b hb0 hb => ?_, fun b hp hb => ?_, ?_, ?_, fun q hq => (ho q (by omega)).trans (h6 q hq)⟩
  · by_cases hab : b = h.2.2.1
    · subst hab
      have e : (rf_nw h sh N).2.1 h.2.2.1 = sh := va_up_self _ _ _
      rw [e]
      exact hat
    · have hb2 : b < h.2.2.1 := by
        have : b < h.2.2.1 + 1 := hb
        omega
      have e : (rf_nw h sh N).2.1 b = h.2.1 b := va_up_ne _ _ hab
      rw [e]
      refine (h1 b hb0 hb2).kept (ho _ ?_) (fun ty k => rf_nw_ne h sh N hab ty k)
      rw [hA.1 b hb0, h3]
      omega
  · have hab : b ≠ h.2.2.1 := by omega
    have e : (rf_nw h sh N).2.1 b = h.2.1 b := va_up_ne _ _ hab
    rw [e]
    refine (h2 b hp hb).kept (ho _ ?_) (fun ty k => rf_nw_ne h sh N hab ty k)
    have := hA.2.1 b hp hb
    omega
  · show H'.size = base + (h.2.2.1 + 1 - cx.2.2.2.2)
    rw [hz, h3]
    omega
  · show cx.2.2.2.2 ≤ h.2.2.1 + 1
    omega
theorem rf_ob_ok {h : rf_H} {a ci : Nat} (hq : rf_ob h a = some ci) : 0 < a ∧ a < h.2.2.1 ∧ h.2.1 a = .inl ci := by
  unfold rf_ob at hq
  split at hq
  · rename_i ha
    refine ⟨ha.1, ha.2, ?_⟩
    split at hq
    · rename_i c hc; cases hq; exact hc
    · cases hq
  · cases hq
theorem rf_aa_ok {h : rf_H} {a : Nat} {q : FieldType × Nat} (hq : rf_aa h a = some q) : 0 < a ∧ a < h.2.2.1 ∧ h.2.1 a = .inr q := by
  unfold rf_aa at hq
  split at hq
  · rename_i ha
    refine ⟨ha.1, ha.2, ?_⟩
    split at hq
    · rename_i c hc; cases hq; exact hc
    · cases hq
  · cases hq
/-- any array, as far as it is read -/
theorem rf_R.arr {ocl : List vw_C} {OH : Heap} {D : va_G} {cx : rf_C} {ad : Nat → Nat} {base : Nat} {U : State} {H : Heap} {h : rf_H} (hR : rf_R ocl OH D cx ad base U H h) {a : Nat} {q : FieldType × Nat} (hq : rf_aa h a = some q) : ∃ cell : Cell, H[ad a]? = some cell ∧ U.isArrayOf cell q.1 ∧ cell.vm ≠ .unknown ∧ q.2 ≤ cell.slots.size ∧ cell.slots.size.toInt32 = nI q.2 ∧ ∀ j, j < q.2 → cell.slots[j]? = some (rf_cv ad (rf_rd h.1 q.1 a j)) := by
  obtain ⟨h0, h1, h2⟩ := rf_aa_ok hq
  by_cases ha : cx.2.2.2.2 ≤ a
  · have h3 := hR.1 a ha h1
    rw [h2] at h3
    obtain ⟨cA, g1, g2, g3⟩ := h3
    exact ⟨_, g1, g2 _ _, (fun z => by cases z), by rw [arrV_size]; exact Nat.le_refl _, by rw [arrV_size]; rfl, fun j hj => arrV_read _ _ hj⟩
  · have h3 := hR.2.1 a h0 (Nat.not_le.mp ha)
    rw [h2] at h3
    exact h3
theorem rf_el_ok {h : rf_H} {ty : FieldType} {a : Nat} {j : Int32} {v : Value} (he : rf_el h ty a j = some v) : ∃ n : Nat, rf_aa h a = some (ty, n) ∧ ¬ (j < 0 ∨ n ≤ j.toNatClampNeg) ∧ v = rf_rd h.1 ty a j.toNatClampNeg := by
  unfold rf_el at he
  split at he
  · rename_i q hq
    split at he
    · rename_i hc
      cases he
      refine ⟨q.2, ?_, hc.2, rfl⟩
      rw [hq, ← hc.1]
    · cases he
  · cases he
end
section
/-! THE REFLECTION IS TRUE: instructions on the heap -/
/-- a field's link, and the field that it finds -/
def rf_wg (tb : List Cond) (own : String) (idx : Nat) (r : vw_C) (k : Nat) : Prop := k < r.2.2 ∧ ∃ ref : String, Cond.fieldLink own idx ref (r.2.1 k).2.1 (r.2.1 k).2.2.1 ∈ tb ∧ (ref = (r.2.1 k).1 ∨ Cond.sameField ref (r.2.1 k).1 (r.2.1 k).2.1 (r.2.1 k).2.2.1 ∈ tb)
/-- what a table of code says of its links -/
def rf_wlk (cx : rf_C) (ocl : List vw_C) (tb sp : List Cond) (own nm : String) (I : Instr) (aux : List (Int × Nat)) : Prop := match I with
  | .getfield idx => ∀ q ∈ aux, (0 ≤ q.1 → ∃ r : vw_C, cx.2.2.2.1[q.1.toNat]? = some r ∧ rf_wg tb own idx r q.2) ∧ (q.1 < 0 → ∃ r : vw_C, ocl[(-q.1 - 1).toNat]? = some r ∧ rf_wg tb own idx r q.2)
  | .putfield idx => ∀ q ∈ aux, 0 ≤ q.1 → ∃ r : vw_C, cx.2.2.2.1[q.1.toNat]? = some r ∧ rf_wg tb own idx r q.2 ∧ ((r.2.1 q.2).2.2.2 = false ∨ ((r.2.1 q.2).2.2.2 = true ∧ nm = "<init>" ∧ (r.2.1 q.2).1 = own))
  | .new idx => ∀ q ∈ aux, ∀ r : vw_C, cx.2.2.2.1[q.2]? = some r → Cond.classLink own idx r.1 ∈ tb ∧ Cond.instantiable r.1 r.2.2 ∈ tb ∧ Cond.initialized r.1 ∈ tb
  | .newarray t => Cond.arrayClass (newarray.typeOf t) ∈ tb
  | .anewarray idx => ∀ q ∈ aux, ∀ r : vw_C, cx.2.2.2.1[q.2]? = some r → Cond.classLink own idx r.1 ∈ tb ∧ Cond.arrayOver (.object r.1) ∈ sp
  | _ => True
/-- what the tables say of the classes -/
def rf_G (cx : rf_C) (tb : List Cond) : Prop := ∀ (ci : Nat) (r : vw_C), cx.2.2.2.1[ci]? = some r → (∀ w ∈ u_ws r.1 r.2.1 r.2.2, w ∈ tb) ∧ (∀ k, k < r.2.2 → parseFieldDescriptor (r.2.1 k).2.2.1 = some (cx.2.2.1 (ci : Int) k)) ∧ (∀ a, a < r.2.2 → ∀ b, b < r.2.2 → a ≠ b → (r.2.1 a).2.1 ≠ (r.2.1 b).2.1) ∧ (∀ k, k < r.2.2 → cx.2.2.1 (ci : Int) k ≠ .float ∧ cx.2.2.1 (ci : Int) k ≠ .double)
theorem rf_lk_ok {aux : List (Int × Nat)} {z : Int} {k : Nat} (h : rf_lk aux z = some k) : (z, k) ∈ aux := by
  unfold rf_lk at h
  cases hf : aux.find? (fun q => q.1 == z) with
  | none => rw [hf] at h; cases h
  | some q =>
    rw [hf] at h
    have hv : q.2 = k := Option.some.inj h
    have hm := List.mem_of_find?_eq_some hf
    have hi : q.1 = z := by simpa using List.find?_some hf
    rw [← hi, ← hv]
    exact hm
theorem rf_dv {ty : FieldType} (hty : ty ≠ .float ∧ ty ≠ .double) (ad : Nat → Nat) (h : rf_H) (sh : rf_S) (N k : Nat) : defaultValue ty = rf_cv ad (rf_rd (rf_nw h sh N).1 ty h.2.2.1 k) := by
  cases ty <;> first | exact absurd rfl hty.1 | exact absurd rfl hty.2 | simp [defaultValue, rf_rd, rf_nw, va_up, rf_cv, va_rf]
theorem rf_wi_cv (ad : Nat → Nat) (M : rf_M) {ty : FieldType} (hty : ty = .int ∨ ty = .byte ∨ ty = .boolean ∨ ty = .char ∨ ty = .short) (a k : Nat) (x : Int32) : (updV (fun j => rf_cv ad (rf_rd M ty a j)) k (.int x)) = fun j => rf_cv ad (rf_rd (rf_wi M a k x) ty a j) := by
  funext j
  unfold updV
  by_cases hj : j = k
  · subst hj
    rw [if_pos rfl]
    rcases hty with h | h | h | h | h <;> subst h <;> simp [rf_rd, rf_wi, va_up, rf_cv]
  · rw [if_neg hj, rf_wi_ne M x (Or.inr hj)]
theorem rf_wl_cv (ad : Nat → Nat) (M : rf_M) (a k : Nat) (x : Int64) : (updV (fun j => rf_cv ad (rf_rd M .long a j)) k (.long x)) = fun j => rf_cv ad (rf_rd (rf_wl M a k x) .long a j) := by
  funext j
  unfold updV
  by_cases hj : j = k
  · subst hj
    rw [if_pos rfl]
    simp [rf_rd, rf_wl, va_up, rf_cv]
  · rw [if_neg hj, rf_wl_ne M x (Or.inr hj)]
theorem rf_wq_cv (ad : Nat → Nat) (M : rf_M) (C : String) (a k : Nat) (x : Option Nat) : (updV (fun j => rf_cv ad (rf_rd M (.object C) a j)) k (va_rf (x.map ad))) = fun j => rf_cv ad (rf_rd (rf_wq M a k x) (.object C) a j) := by
  funext j
  unfold updV
  by_cases hj : j = k
  · subst hj
    rw [if_pos rfl, ← rf_cvrf]
    simp [rf_rd, rf_wq, va_up]
  · rw [if_neg hj, rf_wq_ne M x (Or.inr hj)]
section RFH
variable {p : Program} {l : Launch} {e : Env} {R : Room} {s : State} {m : MethodId} {args : Array Value} {below : List Frame} {meth : Method} {c : Code} {H : Heap} {locs : List Loc} {cells slots : Nat} {Q : State → Prop}
variable {cc : ByteArray} {pc : Nat} {ls : Array Slot} {D : va_G} {cx : rf_C} {ad : Nat → Nat} {base : Nat} {ocl : List vw_C} {OH : Heap} {tb sp : List Cond} {own : String} {h : rf_H} {rest : List Value}
theorem rf_get_ok (hx : p.tables.exec = Jvm.exec) (hb : c.code = cc) (hts : ∀ w ∈ tb, w.before args s = true) (hG : rf_G cx tb) (hown : s.vm.findClass own = some m.cls) (hK : va_K D cx.2.2.2.1 [] s) (hR : rf_R ocl OH D cx ad base s H h) {a ci k idx : Nat} (hob : rf_ob h a = some ci)
    (hw1 : cx.2.2.2.2 ≤ a → ∃ r : vw_C, cx.2.2.2.1[ci]? = some r ∧ rf_wg tb own idx r k) (hw2 : a < cx.2.2.2.2 → ∃ r : vw_C, ocl[ci]? = some r ∧ rf_wg tb own idx r k) (hd : decode cc pc = .ok (.getfield idx, 3))
    (kk : W p l e R s m args below meth c H locs cells slots Q (F0 m (pc + 3) ls (rf_cv ad (rf_rd h.1 (cx.2.2.1 (rf_ky cx.2.2.2.2 a ci) k) a k) :: rest))) : W p l e R s m args below meth c H locs cells slots Q (F0 m pc ls (.ref (ad a) :: rest)) := by
  obtain ⟨hap, ha, hsh⟩ := rf_ob_ok hob
  by_cases ha0 : cx.2.2.2.2 ≤ a
  · obtain ⟨r, hr, hk, ref, hl, hsm⟩ := hw1 ha0
    have hq := hR.1 a ha0 ha
    rw [hsh] at hq
    obtain ⟨r', hr', cell, q1, q2, q3, q4⟩ := hq
    cases hr.symm.trans hr'
    obtain ⟨hS, hfc, kC, hkC, hkind⟩ := hK.1 ci _ hr
    obtain ⟨cf, kf, fi, f, hi, hsl⟩ := hS k hk
    have hky : rf_ky cx.2.2.2.2 a ci = (ci : Int) := if_neg (Nat.not_lt.mpr ha0)
    rw [hky] at kk
    have hs2 : s.fieldFound? ref (r.2.1 k).2.1 (r.2.1 k).2.2.1 = some (cf, kf, fi, f) := by
      rcases hsm with h5 | h5
      · rw [h5]; exact hi
      · exact u_same (hts _ h5) _ hi
    exact W.getf hx hb hown (hts _ hl) hs2 (u_facts hfc hkC (u_lays hts (hG ci r hr).1 hk) hi).1 q1 (by rw [q3]; exact fun z => by cases z) (by rw [hsl]; exact q4 k hk) rfl rfl hd kk
  · have ha1 := Nat.not_le.mp ha0
    obtain ⟨r, hr, hk, ref, hl, hsm⟩ := hw2 ha1
    have hq := hR.2.1 a hap ha1
    rw [hsh] at hq
    obtain ⟨r', hr', -, h3⟩ := hq
    cases hr.symm.trans hr'
    obtain ⟨cf, kf, fi, f, cell, hi, hst, q1, q3, q4⟩ := h3 k hk
    have hky : rf_ky cx.2.2.2.2 a ci = -(ci : Int) - 1 := if_pos ha1
    rw [hky] at kk
    have hs2 : s.fieldFound? ref (r.2.1 k).2.1 (r.2.1 k).2.2.1 = some (cf, kf, fi, f) := by
      rcases hsm with h5 | h5
      · rw [h5]; exact hi
      · exact u_same (hts _ h5) _ hi
    exact W.getf hx hb hown (hts _ hl) hs2 hst q1 q3 q4 rfl rfl hd kk
theorem rf_put_ok (hx : p.tables.exec = Jvm.exec) (hb : c.code = cc) (hts : ∀ w ∈ tb, w.before args s = true) (hG : rf_G cx tb) (hown : s.vm.findClass own = some m.cls) (hK : va_K D cx.2.2.2.1 [] s) (hA : rf_A cx ad base) (hR : rf_R ocl OH D cx ad base s H h) (hloc : ∀ q ∈ locs, base ≤ q.base) {a ci k idx : Nat} (ha0 : cx.2.2.2.2 ≤ a) (hob : rf_ob h a = some ci)
    {r : vw_C} (hr : cx.2.2.2.1[ci]? = some r) (hw : rf_wg tb own idx r k) (hfin : (r.2.1 k).2.2.2 = false ∨ ((r.2.1 k).2.2.2 = true ∧ meth.name = "<init>" ∧ (r.2.1 k).1 = own)) {v : Value} {M' : rf_M} (hwr : rf_wr h.1 (cx.2.2.1 (ci : Int) k) a k v = some M') (hd : decode cc pc = .ok (.putfield idx, 3))
    (kk : ∀ (H' : Heap) (locs' : List Loc), rf_R ocl OH D cx ad base s H' (M', h.2) → (∀ q ∈ locs', base ≤ q.base) → W p l e R s m args below meth c H' locs' cells slots Q (F0 m (pc + 3) ls rest)) : W p l e R s m args below meth c H locs cells slots Q (F0 m pc ls (rf_cv ad v :: .ref (ad a) :: rest)) := by
  obtain ⟨hap, ha, hsh⟩ := rf_ob_ok hob
  obtain ⟨w1, w2, w3, w4⟩ := rf_wr_ok hwr ad
  obtain ⟨hk, ref, hl, hsm⟩ := hw
  have hq := hR.1 a ha0 ha
  rw [hsh] at hq
  obtain ⟨r', hr', cell, q1, q2, q3, q4⟩ := hq
  cases hr.symm.trans hr'
  obtain ⟨g1, g2, g3, -⟩ := hG ci r hr
  have hapt := va_apart (own := own) hts g1 (cx.2.2.1 (ci : Int)) g2 g3 hK hr
  obtain ⟨hS, hfc, kC, hkC, hkind⟩ := hK.1 ci _ hr
  obtain ⟨cf, kf, fi, f, hi, hsl⟩ := hS k hk
  have hst := (u_facts hfc hkC (u_lays hts g1 hk) hi).1
  have hsame : s.fieldFound? ref (r.2.1 k).2.1 (r.2.1 k).2.2.1 = some (cf, kf, fi, f) := by
    rcases hsm with h5 | h5
    · rw [h5]; exact hi
    · exact u_same (hts _ h5) _ hi
  have hlay := hts _ (g1 _ (u_in_lay hk))
  have hbase : base ≤ ad a := by rw [hA.1 a ha0]; omega
  have done : ∀ H' : Heap, H'[ad a]? = some (cell.setSlot (D.2 ci k) (rf_cv ad v)) → H'.size = H.size → (∀ q, q ≠ ad a → H'[q]? = H[q]?) → rf_R ocl OH D cx ad base s H' (M', h.2) := by
    intro H' e1 e2 e3
    refine hR.set hA ha0 e2 e3 (fun ty a' k' z => w2 ty a' k' (Or.inl z)) ?_
    rw [hsh]
    refine ⟨r, hr, t_OB.to (V := updV (fun j => rf_cv ad (rf_rd h.1 (cx.2.2.1 (ci : Int) j) a j)) k (rf_cv ad v)) ⟨_, e1, q2, q3, t_set q4 hapt hk _⟩ (fun j _ => ?_)⟩
    unfold updV
    by_cases hj : j = k
    · subst hj
      rw [if_pos rfl, w1]
    · rw [if_neg hj, w2 _ _ _ (Or.inr hj)]
  have hl2 : ∀ q ∈ locs ++ [(⟨ad a, D.2 ci k⟩ : Loc)], base ≤ q.base := by
    intro q hq
    rcases List.mem_append.mp hq with h5 | h5
    · exact hloc q h5
    · rw [List.mem_singleton.mp h5]; exact hbase
  rcases hfin with hf | ⟨hf, hin2, hdecl⟩
  · unfold u_lay at hlay
    rw [if_neg (by rw [hf]; decide)] at hlay
    have h6 := u_store hfc hkC hkind hlay hi (g2 k hk) w3 w4
    refine W.putK hx hb (f := f) ⟨hown, hts _ hl, ⟨_, _, _, hsame⟩, hst⟩ (by rw [q2]; exact h6) q1 q3 (by rw [hsl]; exact k2_hasslot (q4 k hk)) rfl rfl hd fun H' e1 e2 e3 => ?_
    rw [hsl] at e1 ⊢
    exact kk H' _ (done H' e1 e2 e3) hl2
  · unfold u_lay at hlay
    rw [if_pos hf] at hlay
    have hcf : m.cls = cf := by
      obtain ⟨_, _, c', _, _, _, -, -, hf', -, -, -, hown2, -⟩ := Cond.laysFinal_spec hlay
      have e1 : c' = cf := by have := hi.symm.trans hf'; simp at this; exact this.1.symm
      rw [hdecl] at hown2
      rw [← e1]; exact Option.some.inj (hown.symm.trans hown2)
    have h6 := u_fits hfc hkC hkind (Or.inr hlay) hi (g2 k hk) w3 w4
    refine W.putFinK hx hb hown (hts _ hl) hsame hst hcf hin2 (by rw [q2]; exact h6) q1 q3 (by rw [hsl]; exact k2_hasslot (q4 k hk)) rfl rfl hd fun H' e1 e2 e3 => ?_
    rw [hsl] at e1 ⊢
    exact kk H' _ (done H' e1 e2 e3) hl2
/-- a store into an array that was made -/
theorem rf_ast_ok (hA : rf_A cx ad base) (hR : rf_R ocl OH D cx ad base s H h) (hloc : ∀ q ∈ locs, base ≤ q.base) {a n : Nat} {ty : FieldType} (ha0 : cx.2.2.2.2 ≤ a) (haa : rf_aa h a = some (ty, n)) {k : Nat} {v : Value} {M' : rf_M} (hv : updV (fun j => rf_cv ad (rf_rd h.1 ty a j)) k v = fun j => rf_cv ad (rf_rd M' ty a j)) (hM : ∀ (ty' : FieldType) (a' k' : Nat), a' ≠ a → rf_rd M' ty' a' k' = rf_rd h.1 ty' a' k') {cA : ClassId} (hcell : H[ad a]? = some (arrV cA n (fun j => rf_cv ad (rf_rd h.1 ty a j)))) (hc1 : ArrOfT s cA ty) (hc2 : va_RA s cA ty)
    (kk : ∀ (H' : Heap) (locs' : List Loc), rf_R ocl OH D cx ad base s H' (M', h.2) → (∀ q ∈ locs', base ≤ q.base) → W p l e R s m args below meth c H' locs' cells slots Q (F0 m (pc + 1) ls rest)) :
    ∀ H' : Heap, H'[ad a]? = some ((arrV cA n (fun j => rf_cv ad (rf_rd h.1 ty a j))).setSlot k v) → H'.size = H.size → (∀ q, q ≠ ad a → H'[q]? = H[q]?) → W p l e R s m args below meth c H' (locs ++ [⟨ad a, k⟩]) cells slots Q (F0 m (pc + 1) ls rest) := by
  intro H' e1 e2 e3
  obtain ⟨-, ha, hsh⟩ := rf_aa_ok haa
  refine kk H' _ (hR.set hA ha0 e2 e3 hM ?_) (fun q hq => ?_)
  · rw [hsh]
    refine ⟨cA, ?_, hc1, hc2⟩
    rw [e1, arrV_store, hv]
  · rcases List.mem_append.mp hq with h5 | h5
    · exact hloc q h5
    · rw [List.mem_singleton.mp h5]
      show base ≤ ad a
      rw [hA.1 a ha0]
      omega
theorem rf_R.made {U : State} (hR : rf_R ocl OH D cx ad base U H h) {a n : Nat} {ty : FieldType} (ha0 : cx.2.2.2.2 ≤ a) (haa : rf_aa h a = some (ty, n)) : ∃ cA : ClassId, H[ad a]? = some (arrV cA n (fun j => rf_cv ad (rf_rd h.1 ty a j))) ∧ ArrOfT U cA ty ∧ va_RA U cA ty := by
  obtain ⟨-, ha, hsh⟩ := rf_aa_ok haa
  have hq := hR.1 a ha0 ha
  rw [hsh] at hq
  exact hq
set_option maxHeartbeats 8000000 in
theorem rf_hp_ok (hx : p.tables.exec = Jvm.exec) (hb : c.code = cc) (hts : ∀ w ∈ tb, w.before args s = true) (hsp : ∀ w ∈ sp, w.before #[] s = true) (hG : rf_G cx tb) (hown : s.vm.findClass own = some m.cls) (hK : va_K D cx.2.2.2.1 [] s) (hA : rf_A cx ad base) (hR : rf_R ocl OH D cx ad base s H h) (hloc : ∀ q ∈ locs, base ≤ q.base)
    {I : Instr} {aux : List (Int × Nat)} {st : List Value} {q' : List Value × rf_H} (he : rf_hp cx I aux st h = some q') (hd : decode cc pc = .ok (I, rf_len I)) {nm : String} (hwl : rf_wlk cx ocl tb sp own nm I aux) (hnm : nm = "<init>" → meth.name = "<init>")
    (hcells : cells + (q'.2.2.2.1 - h.2.2.1) ≤ R.cells) (hslots : slots + (q'.2.2.2.2 - h.2.2.2) ≤ R.slots)
    (kk : ∀ (H' : Heap) (locs' : List Loc), rf_R ocl OH D cx ad base s H' q'.2 → (∀ q ∈ locs', base ≤ q.base) → W p l e R s m args below meth c H' locs' (cells + (q'.2.2.2.1 - h.2.2.1)) (slots + (q'.2.2.2.2 - h.2.2.2)) Q (F0 m (pc + rf_len I) ls (q'.1.map (rf_cv ad)))) : W p l e R s m args below meth c H locs cells slots Q (F0 m pc ls (st.map (rf_cv ad))) := by
  have same : ∀ {st' : List Value} {M' : rf_M}, q' = (st', (M', h.2)) → ∀ (H' : Heap) (locs' : List Loc), rf_R ocl OH D cx ad base s H' (M', h.2) → (∀ q ∈ locs', base ≤ q.base) → W p l e R s m args below meth c H' locs' cells slots Q (F0 m (pc + rf_len I) ls (st'.map (rf_cv ad))) := by
    intro st' M' hq H' locs' h1 h2
    subst hq
    have k2 := kk H' locs' h1 h2
    simp only [Nat.sub_self, Nat.add_zero] at k2
    exact k2
  have here : ∀ {st' : List Value}, q' = (st', h) → W p l e R s m args below meth c H locs cells slots Q (F0 m (pc + rf_len I) ls (st'.map (rf_cv ad))) := fun hq => same (M' := h.1) hq H locs hR hloc
  have ld : ∀ {ty : FieldType} {a : Nat} {j : Int32} {v : Value}, rf_el h ty a j = some v → ∃ cell : Cell, H[ad a]? = some cell ∧ s.isArrayOf cell ty ∧ cell.vm ≠ .unknown ∧ ¬ (j < 0 ∨ cell.slots.size ≤ j.toNatClampNeg) ∧ cell.slots[j.toNatClampNeg]? = some (rf_cv ad v) := by
    intro ty a j v hv
    obtain ⟨n, h1, h2, rfl⟩ := rf_el_ok hv
    obtain ⟨cell, g1, g2, g3, g4, -, g5⟩ := hR.arr h1
    exact ⟨cell, g1, g2, g3, fun z => h2 (z.imp id (fun w => Nat.le_trans g4 w)), g5 _ (Nat.not_le.mp fun z => h2 (Or.inr z))⟩
  unfold rf_hp at he
  split at he
  · -- getfield
    rename_i idx a r
    split at he
    · rename_i ci hob
      split at he
      · rename_i k hlk
        cases he
        have hm := hwl _ (rf_lk_ok hlk)
        refine rf_get_ok hx hb hts hG hown hK hR hob (fun ha0 => ?_) (fun ha1 => ?_) hd (here rfl)
        · have hky : rf_ky cx.2.2.2.2 a ci = (ci : Int) := if_neg (Nat.not_lt.mpr ha0)
          rw [hky] at hm
          exact hm.1 (Int.natCast_nonneg ci)
        · have hky : rf_ky cx.2.2.2.2 a ci = -(ci : Int) - 1 := if_pos ha1
          rw [hky] at hm
          have h5 := hm.2 (by simp only; omega)
          simp only at h5
          rw [show (-(-(ci : Int) - 1) - 1).toNat = ci by omega] at h5
          exact h5
      · cases he
    · cases he
  · -- putfield
    rename_i idx v a r
    split at he
    · cases he
    · rename_i ha1
      have ha0 := Nat.not_lt.mp ha1
      split at he
      · rename_i ci hob
        split at he
        · rename_i k hlk
          split at he
          · rename_i M hwr
            cases he
            obtain ⟨r0, hr0, hw, hf⟩ := hwl _ (rf_lk_ok hlk) (Int.natCast_nonneg ci)
            exact rf_put_ok hx hb hts hG hown hK hA hR hloc ha0 hob (by simpa using hr0) hw (hf.imp id (fun z => ⟨z.1, hnm z.2.1, z.2.2⟩)) hwr hd (same rfl)
          · cases he
        · cases he
      · cases he
  · split at he
    · rename_i v hv
      cases he
      obtain ⟨cell, g1, g2, g3, g4, g5⟩ := ld hv
      exact W.iald hx hb g1 g2 g3 g4 g5 rfl rfl hd (here rfl)
    · cases he
  · split at he
    · rename_i v hv
      cases he
      obtain ⟨cell, g1, g2, g3, g4, g5⟩ := ld hv
      exact W.lald hx hb g1 g2 g3 g4 g5 rfl rfl hd (here rfl)
    · cases he
  · split at he
    · rename_i v hv
      cases he
      obtain ⟨cell, g1, g2, g3, g4, g5⟩ := ld hv
      exact W.bald hx hb g1 g2 g3 g4 g5 rfl rfl hd (here rfl)
    · split at he
      · rename_i v hv
        cases he
        obtain ⟨cell, g1, g2, g3, g4, g5⟩ := ld hv
        exact W.zald hx hb g1 g2 g3 g4 g5 rfl rfl hd (here rfl)
      · cases he
  · split at he
    · rename_i v hv
      cases he
      obtain ⟨cell, g1, g2, g3, g4, g5⟩ := ld hv
      exact W.cald hx hb g1 g2 g3 g4 g5 rfl rfl hd (here rfl)
    · cases he
  · split at he
    · rename_i v hv
      cases he
      obtain ⟨cell, g1, g2, g3, g4, g5⟩ := ld hv
      exact W.sald hx hb g1 g2 g3 g4 g5 rfl rfl hd (here rfl)
    · cases he
  · split at he
    · split at he
      · rename_i v hv
        cases he
        obtain ⟨cell, g1, g2, g3, g4, g5⟩ := ld hv
        exact W.aald hx hb g1 g2 rfl g3 g4 g5 rfl rfl hd (here rfl)
      · cases he
    · split at he
      · rename_i v hv
        cases he
        obtain ⟨cell, g1, g2, g3, g4, g5⟩ := ld hv
        exact W.aald hx hb g1 g2 rfl g3 g4 g5 rfl rfl hd (here rfl)
      · cases he
    · cases he
  · -- iastore
    rename_i x j a r
    split at he
    · cases he
    · rename_i ha1
      split at he
      · rename_i v hv
        cases he
        obtain ⟨n, h1, h2, -⟩ := rf_el_ok hv
        obtain ⟨cA, c1, c2, c3⟩ := hR.made (Nat.not_lt.mp ha1) h1
        exact W.iast hx hb c1 (c2 _ _) (fun z => by cases z) (by rw [arrV_size]; exact h2) rfl rfl hd (rf_ast_ok hA hR hloc (Nat.not_lt.mp ha1) h1 (rf_wi_cv ad h.1 (Or.inl rfl) a _ x) (fun ty a' k' z => rf_wi_ne h.1 x (Or.inl z) ty) c1 c2 c3 (same rfl))
      · cases he
  · rename_i x j a r
    split at he
    · cases he
    · rename_i ha1
      split at he
      · rename_i v hv
        cases he
        obtain ⟨n, h1, h2, -⟩ := rf_el_ok hv
        obtain ⟨cA, c1, c2, c3⟩ := hR.made (Nat.not_lt.mp ha1) h1
        exact W.last hx hb c1 (c2 _ _) (fun z => by cases z) (by rw [arrV_size]; exact h2) rfl rfl hd (rf_ast_ok hA hR hloc (Nat.not_lt.mp ha1) h1 (rf_wl_cv ad h.1 a _ x) (fun ty a' k' z => rf_wl_ne h.1 x (Or.inl z) ty) c1 c2 c3 (same rfl))
      · cases he
  · rename_i x j a r
    split at he
    · cases he
    · rename_i ha1
      split at he
      · rename_i v hv
        cases he
        obtain ⟨n, h1, h2, -⟩ := rf_el_ok hv
        obtain ⟨cA, c1, c2, c3⟩ := hR.made (Nat.not_lt.mp ha1) h1
        exact W.bast hx hb c1 (c2 _ _) (fun z => by cases z) (by rw [arrV_size]; exact h2) rfl rfl hd (rf_ast_ok hA hR hloc (Nat.not_lt.mp ha1) h1 (rf_wi_cv ad h.1 (Or.inr (Or.inl rfl)) a _ _) (fun ty a' k' z => rf_wi_ne h.1 _ (Or.inl z) ty) c1 c2 c3 (same rfl))
      · split at he
        · rename_i v hv
          cases he
          obtain ⟨n, h1, h2, -⟩ := rf_el_ok hv
          obtain ⟨cA, c1, c2, c3⟩ := hR.made (Nat.not_lt.mp ha1) h1
          exact W.zast hx hb c1 (c2 _ _) (fun z => by cases z) (by rw [arrV_size]; exact h2) rfl rfl hd (rf_ast_ok hA hR hloc (Nat.not_lt.mp ha1) h1 (rf_wi_cv ad h.1 (Or.inr (Or.inr (Or.inl rfl))) a _ _) (fun ty a' k' z => rf_wi_ne h.1 _ (Or.inl z) ty) c1 c2 c3 (same rfl))
        · cases he
  · rename_i x j a r
    split at he
    · cases he
    · rename_i ha1
      split at he
      · rename_i v hv
        cases he
        obtain ⟨n, h1, h2, -⟩ := rf_el_ok hv
        obtain ⟨cA, c1, c2, c3⟩ := hR.made (Nat.not_lt.mp ha1) h1
        exact W.cast hx hb c1 (c2 _ _) (fun z => by cases z) (by rw [arrV_size]; exact h2) rfl rfl hd (rf_ast_ok hA hR hloc (Nat.not_lt.mp ha1) h1 (rf_wi_cv ad h.1 (Or.inr (Or.inr (Or.inr (Or.inl rfl)))) a _ _) (fun ty a' k' z => rf_wi_ne h.1 _ (Or.inl z) ty) c1 c2 c3 (same rfl))
      · cases he
  · -- aastore of an object
    rename_i v j a r
    split at he
    · cases he
    · rename_i ha1
      have ha0 : cx.2.2.2.2 ≤ a := Nat.not_lt.mp fun z => ha1 (Or.inl z)
      have hv0 : cx.2.2.2.2 ≤ v := Nat.not_lt.mp fun z => ha1 (Or.inr z)
      split at he
      · rename_i C n ci haa hob
        split at he
        · rename_i hc
          cases he
          obtain ⟨cA, c1, c2, c3⟩ := hR.made ha0 haa
          obtain ⟨-, hv1, hsh⟩ := rf_ob_ok hob
          have hq := hR.1 v hv0 hv1
          rw [hsh] at hq
          obtain ⟨r1, hr1, cellV, g1, g2, g3, -⟩ := hq
          have hC : r1.1 = C := by have h5 := hc.1; rw [hr1] at h5; exact Option.some.inj h5
          have hcls := (hK.1 ci r1 hr1).2
          obtain ⟨kA, comp, k1, k2, k3, -⟩ := c3
          have hcomp : comp = D.1 ci := by rw [← hC] at k3; exact Option.some.inj (k3.symm.trans hcls.1)
          subst hcomp
          obtain ⟨kC, hkC, -⟩ := hcls.2
          obtain ⟨cA2, d1, d2, d3⟩ := hR.made ha0 haa
          have hcA : cA2 = cA := by have h6 := d1.symm.trans c1; exact congrArg (fun z : Option Cell => (z.map (·.cls)).getD 0) h6
          subst hcA
          have hlt : j.toNatClampNeg < n := Nat.not_le.mp fun z => hc.2 (Or.inr z)
          exact W.aast hx hb c1 (fun z h7 => by cases h7) (fun h7 => by cases h7) k1 k2 rfl hkC ⟨fun z => hc.2 (Or.inl z), by rw [arrV_size]; exact hlt⟩ g1 (fun z h7 => by rw [g3] at h7; cases h7) (by rw [g2]; exact hkC) (by rw [g2]; exact va_assign hcls) rfl rfl hd (rf_ast_ok hA hR hloc ha0 haa (rf_wq_cv ad h.1 C a _ (some v)) (fun ty a' k' z => rf_wq_ne h.1 (some v) (Or.inl z) ty) c1 c2 d3 (same rfl))
        · cases he
      · cases he
  · -- aastore of null
    rename_i j a r
    split at he
    · cases he
    · rename_i ha1
      have ha0 : cx.2.2.2.2 ≤ a := Nat.not_lt.mp ha1
      split at he
      · rename_i C n haa
        split at he
        · rename_i hc
          cases he
          obtain ⟨cA, c1, c2, c3⟩ := hR.made ha0 haa
          exact va_WaastN (C := C) hx hb c1 (c2 _ _) (fun h7 => by cases h7) (by rw [arrV_size]; exact hc) rfl rfl hd (rf_ast_ok hA hR hloc ha0 haa (rf_wq_cv ad h.1 C a _ none) (fun ty a' k' z => rf_wq_ne h.1 none (Or.inl z) ty) c1 c2 c3 (same rfl))
        · cases he
      · cases he
  · -- arraylength
    split at he
    · rename_i q hq
      cases he
      obtain ⟨cell, g1, g2, g3, -, g4, g5⟩ := hR.arr hq
      exact W.alen hx hb g1 g2 g4 rfl rfl hd (here rfl)
    · cases he
  · -- new
    split at he
    · rename_i x1 ci
      split at he
      · rename_i q hq
        cases he
        obtain ⟨l1, l2, l3⟩ := hwl (x1, ci) (List.mem_singleton.mpr rfl) q hq
        obtain ⟨g1, g2, g3, g4⟩ := hG ci q hq
        have hKn := hK.1 ci _ hq
        have e1 : (rf_nw h (.inl ci) q.2.2).2.2.1 - h.2.2.1 = 1 := by show h.2.2.1 + 1 - h.2.2.1 = 1; omega
        have e2 : (rf_nw h (.inl ci) q.2.2).2.2.2 - h.2.2.2 = q.2.2 := by show h.2.2.2 + q.2.2 - h.2.2.2 = q.2.2; omega
        simp only [e1, e2] at hcells hslots kk
        have had : H.size = ad h.2.2.1 := by rw [hA.1 _ hR.2.2.2.1, hR.2.2.1]
        refine W.newcK hx hb hown (hts _ l1) (hts _ l2) (hts _ l3) rfl hd hcells hslots hKn.2.1 had fun H1 kC hkC e1 z1 o1 => ?_
        refine kk H1 locs (hR.new hA (by rw [z1, had]) (fun x hx => o1 x (by rw [← had]; exact hx)) ?_) hloc
        exact ⟨q, hq, (u_born (cx.2.2.1 (ci : Int)) hts g1 hKn hkC e1 g2).to (fun k hk => rf_dv (g4 k hk) ad h _ _ k)⟩
      · cases he
    · cases he
  · -- newarray
    rename_i t n r
    split at he
    · rename_i hc
      cases he
      have e1 : (rf_nw h (.inr (newarray.typeOf t, n.toNatClampNeg)) n.toNatClampNeg).2.2.1 - h.2.2.1 = 1 := by show h.2.2.1 + 1 - h.2.2.1 = 1; omega
      have e2 : (rf_nw h (.inr (newarray.typeOf t, n.toNatClampNeg)) n.toNatClampNeg).2.2.2 - h.2.2.2 = n.toNatClampNeg := by show h.2.2.2 + n.toNatClampNeg - h.2.2.2 = n.toNatClampNeg; omega
      simp only [e1, e2] at hcells hslots kk
      have had : H.size = ad h.2.2.1 := by rw [hA.1 _ hR.2.2.2.1, hR.2.2.1]
      refine va_newaK hx hb (hts _ hwl) rfl hd rfl hc.1 rfl hc.2.1 hcells hslots had fun H1 cA e1 z1 o1 hAr hNm => ?_
      refine kk H1 locs (hR.new hA (by rw [z1, had]) (fun x hx => o1 x (by rw [← had]; exact hx)) ?_) hloc
      refine ⟨cA, ?_, hAr, by cases t <;> exact hNm⟩
      rw [e1]
      congr 2
      funext j
      exact rf_dv hc.2.2 ad h _ _ j
    · cases he
  · -- anewarray
    rename_i idx n r
    split at he
    · rename_i x1 ci
      split at he
      · rename_i q hq
        split at he
        · rename_i hc
          cases he
          obtain ⟨l1, l2⟩ := hwl (x1, ci) (List.mem_singleton.mpr rfl) q hq
          have e1 : (rf_nw h (.inr (.object q.1, n.toNatClampNeg)) n.toNatClampNeg).2.2.1 - h.2.2.1 = 1 := by show h.2.2.1 + 1 - h.2.2.1 = 1; omega
          have e2 : (rf_nw h (.inr (.object q.1, n.toNatClampNeg)) n.toNatClampNeg).2.2.2 - h.2.2.2 = n.toNatClampNeg := by show h.2.2.2 + n.toNatClampNeg - h.2.2.2 = n.toNatClampNeg; omega
          simp only [e1, e2] at hcells hslots kk
          have had : H.size = ad h.2.2.1 := by rw [hA.1 _ hR.2.2.2.1, hR.2.2.1]
          refine W.anew hx hb hown (hts _ l1) (va_AO.use (hsp _ l2)) rfl hd rfl hc.1 hc.2 hcells hslots fun cA kA comp f1 f2 f3 f4 => ?_
          rw [had]
          refine kk _ locs (hR.new hA (by simp) (fun x hx => by rw [Array.getElem?_push, if_neg (Nat.ne_of_lt hx)]) ?_) hloc
          refine ⟨cA, ?_, fun N z => ⟨(fun k h7 => by cases h7), kA, f2, comp, f3⟩, kA, comp, f2, f3, f4, f1⟩
          rw [← had, Array.getElem?_push_size, arrV_new]
          congr 2
          funext j
          exact rf_dv (ty := .object q.1) ⟨by simp, by simp⟩ ad h _ _ j
        · cases he
      · cases he
    · cases he
  · cases he
end RFH
end
section
/-! THE REFLECTION IS TRUE: members of the JDK that the kit has rows for, constants of the pool -/
/-- what a table of code says of such a call -/
def rf_wi8 (tb : List Cond) (own : String) (idx : Nat) (kd : Int) : Prop :=
  (kd = 10 → Cond.methodLink own idx objectInit ∈ tb ∧ Cond.instanceMethod objectInit ∈ tb ∧ Cond.code objectInit ⟨#[0xb1]⟩ 1 none ∈ tb) ∧
  (kd = 11 → Cond.methodLink own idx arraycopyName ∈ tb ∧ Cond.native arraycopyName ∈ tb ∧ Cond.static arraycopyName ∈ tb ∧ Cond.initialized "java/lang/System" ∈ tb) ∧
  (kd = 12 → Cond.methodLink own idx Lib.Math.min.name ∈ tb ∧ Cond.static Lib.Math.min.name ∈ tb ∧ Cond.initialized "java/lang/Math" ∈ tb ∧ Cond.code Lib.Math.min.name Lib.Math.min.code 2 (some .int) ∈ tb) ∧
  (kd = 13 → Cond.methodLink own idx Lib.Math.max.name ∈ tb ∧ Cond.static Lib.Math.max.name ∈ tb ∧ Cond.initialized "java/lang/Math" ∈ tb ∧ Cond.code Lib.Math.max.name Lib.Math.max.code 2 (some .int) ∈ tb)
theorem rf_ok8_ok {r : List Value} {d : Nat × Nat} {w : Nat} (h : rf_ok8 r d w = true) : 1 ≤ d.1 ∧ (r.map fun v => v.category).sum + w ≤ d.2 := by
  unfold rf_ok8 at h
  simpa using h
section RFB
variable {p : Program} {l : Launch} {e : Env} {R : Room} {s : State} {m : MethodId} {args : Array Value} {below : List Frame} {meth : Method} {c : Code} {H : Heap} {locs : List Loc} {cells slots : Nat} {Q : State → Prop}
variable {cc : ByteArray} {pc : Nat} {ls : Array Slot} {D : va_G} {cx : rf_C} {ad : Nat → Nat} {base : Nat} {ocl : List vw_C} {OH : Heap} {tb sp : List Cond} {own : String} {h : rf_H} {rest : List Value}
set_option maxHeartbeats 4000000 in
theorem rf_cpy_ok (hx : p.tables.exec = Jvm.exec) (hb : c.code = cc) (hml : c.maxLocals = ls.size) (hts : ∀ w ∈ tb, w.before args s = true) (hown : s.vm.findClass own = some m.cls) {idx : Nat} (hl : Cond.methodLink own idx arraycopyName ∈ tb ∧ Cond.native arraycopyName ∈ tb ∧ Cond.static arraycopyName ∈ tb ∧ Cond.initialized "java/lang/System" ∈ tb)
    (hA : rf_A cx ad base) (hR : rf_R ocl OH D cx ad base s H h) (hloc : ∀ q ∈ locs, base ≤ q.base) {a1 a2 n1 n2 : Nat} {ty : FieldType} (hty : ty = .int ∨ ty = .long) (g1 : cx.2.2.2.2 ≤ a1) (g2 : cx.2.2.2.2 ≤ a2) (haa1 : rf_aa h a1 = some (ty, n1)) (haa2 : rf_aa h a2 = some (ty, n2))
    {dp sp n : Int32} (h1 : ¬ sp < 0) (h2 : ¬ dp < 0) (h3 : ¬ n < 0) (h4 : sp.toNatClampNeg + n.toNatClampNeg ≤ n2) (h5 : dp.toNatClampNeg + n.toNatClampNeg ≤ n1) {M' : rf_M} (hM : ∀ (ty' : FieldType) (a' k' : Nat), a' ≠ a1 → rf_rd M' ty' a' k' = rf_rd h.1 ty' a' k')
    (hv : va_cpy (fun j => rf_cv ad (rf_rd h.1 ty a2 j)) (fun j => rf_cv ad (rf_rd h.1 ty a1 j)) sp.toNatClampNeg dp.toNatClampNeg n.toNatClampNeg = fun j => rf_cv ad (rf_rd M' ty a1 j))
    (hframes : 1 ≤ R.frames) (hlocals : (rest.map fun v => v.category).sum + 18 ≤ R.locals) (hd : decode cc pc = .ok (.invokestatic idx, 3))
    (kk : ∀ (H' : Heap) (locs' : List Loc), rf_R ocl OH D cx ad base s H' (M', h.2) → (∀ q ∈ locs', base ≤ q.base) → W p l e R s m args below meth c H' locs' cells slots Q (F0 m (pc + 3) ls rest)) : W p l e R s m args below meth c H locs cells slots Q (F0 m pc ls (.int n :: .int dp :: .ref (ad a1) :: .int sp :: .ref (ad a2) :: rest)) := by
  have nn : ∀ z : Int32, ¬ z < 0 → z.toInt = (z.toNatClampNeg : Int) := by
    intro z hz
    have hz0 : (0 : Int) ≤ z.toInt := by
      have := Int32.not_lt.mp hz
      simpa using Int32.le_iff_toInt_le.mp this
    show z.toInt = ((z.toInt.toNat : Nat) : Int)
    omega
  intro T hT X
  obtain ⟨c1, e1, f1, f1'⟩ := hR.made g1 haa1
  obtain ⟨c2, e2, f2, f2'⟩ := hR.made g2 haa2
  obtain ⟨-, k2, hk2, cm2, hkk2⟩ := f2 n2 (fun j => rf_cv ad (rf_rd h.1 ty a2 j))
  obtain ⟨-, k1, hk1, cm1, hkk1⟩ := f1 n1 (fun j => rf_cv ad (rf_rd h.1 ty a1 j))
  have hprim : refKind ty = false := by rcases hty with z | z <;> subst z <;> rfl
  obtain ⟨vm', X', step⟩ := X.arraycopy hx hown (hts _ hl.1) (hts _ hl.2.1) (hts _ hl.2.2.1) (hts _ hl.2.2.2) (src := ad a2) (dst := ad a1) (srcPos := sp) (destPos := dp) (n := n) (by rw [hT]; exact e2) (by rw [hT]; exact e1)
    (fun _ z => by cases z) (fun _ z => by cases z) (fun z => by cases z) (fun z => by cases z) hk2 hk1 hkk2 hkk1 (by simp [hprim]) h1 h2 h3
    (by rw [nn sp h1, nn n h3, arrV_size]; omega)
    (by rw [nn dp h2, nn n h3, arrV_size]; omega)
    (fun vm₁ _ i hi => by
      have e : (arrV c2 n2 (fun j => rf_cv ad (rf_rd h.1 ty a2 j))).slots.getD (sp.toNatClampNeg + i) .null = rf_cv ad (rf_rd h.1 ty a2 (sp.toNatClampNeg + i)) := by
        rw [Array.getD_eq_getD_getElem?, arrV_read _ _ (by omega)]
        rfl
      rw [e]
      rcases hty with z | z <;> subst z <;> exact ⟨rfl, trivial⟩)
    (g := F0 m pc ls (.int n :: .int dp :: .ref (ad a1) :: .int sp :: .ref (ad a2) :: rest)) rfl (by rw [hml]) (rest := rest) rfl (by rw [hb]; exact hd) hframes (by
      have e7 : nativeFrameWords "java/lang/System" "arraycopy" 5 = 7 := by decide +kernel
      rw [e7]
      show 2 * 0 + _ + _ ≤ _
      omega)
  have e3 : copied (arrV c2 n2 (fun j => rf_cv ad (rf_rd h.1 ty a2 j))) (arrV c1 n1 (fun j => rf_cv ad (rf_rd h.1 ty a1 j))) sp dp n = arrV c1 n1 (fun j => rf_cv ad (rf_rd M' ty a1 j)) := by
    have e4 := va_copied (fun z : Value => z) c2 c1 (n1 := n1) (dp := dp.toNatClampNeg) (fun j => rf_cv ad (rf_rd h.1 ty a2 j)) (fun j => rf_cv ad (rf_rd h.1 ty a1 j)) h4
    rw [← hv]
    exact e4
  rw [e3] at X' step
  have hlt : ad a1 < H.size := (Array.getElem?_eq_some_iff.mp e1).1
  have hheap : ((T.setVm vm').setCell (ad a1) (arrV c1 n1 (fun j => rf_cv ad (rf_rd M' ty a1 j)))).heap = H.setIfInBounds (ad a1) (arrV c1 n1 (fun j => rf_cv ad (rf_rd M' ty a1 j))) := by rw [← hT]; rfl
  have oq : ∀ q : Nat, q ≠ ad a1 → (H.setIfInBounds (ad a1) (arrV c1 n1 (fun j => rf_cv ad (rf_rd M' ty a1 j))))[q]? = H[q]? := fun q hq => by simp [Array.getElem?_setIfInBounds, Ne.symm hq]
  obtain ⟨-, -, hsh⟩ := rf_aa_ok haa1
  obtain ⟨t, b1, b2⟩ := kk _ _ (hR.set hA g1 (by simp) oq hM (by
      rw [hsh]
      exact ⟨c1, by simp [Array.getElem?_setIfInBounds, hlt], f1, f1'⟩)) (fun q hq => by
      rcases List.mem_append.mp hq with z | z
      · exact hloc q z
      · obtain ⟨w, -, hw⟩ := List.mem_map.mp z
        rw [← hw]
        show base ≤ ad a1
        rw [hA.1 a1 g1]
        omega) _ hheap X'
  exact ⟨t, step t b1, b2⟩
theorem rf_cpyI (ad : Nat → Nat) (M : rf_M) (a1 a2 sp dp n : Nat) : va_cpy (fun j => rf_cv ad (rf_rd M .int a2 j)) (fun j => rf_cv ad (rf_rd M .int a1 j)) sp dp n = fun j => rf_cv ad (rf_rd (va_up M.1 a1 (va_cpy (M.1 a2) (M.1 a1) sp dp n), M.2.1, M.2.2) .int a1 j) := by
  funext j
  simp only [rf_rd, va_up_self]
  unfold va_cpy
  split <;> rfl
theorem rf_cpyL (ad : Nat → Nat) (M : rf_M) (a1 a2 sp dp n : Nat) : va_cpy (fun j => rf_cv ad (rf_rd M .long a2 j)) (fun j => rf_cv ad (rf_rd M .long a1 j)) sp dp n = fun j => rf_cv ad (rf_rd (M.1, va_up M.2.1 a1 (va_cpy (M.2.1 a2) (M.2.1 a1) sp dp n), M.2.2) .long a1 j) := by
  funext j
  simp only [rf_rd, va_up_self]
  unfold va_cpy
  split <;> rfl
set_option maxHeartbeats 4000000 in
theorem rf_bi_ok (hx : p.tables.exec = Jvm.exec) (hb : c.code = cc) (hml : c.maxLocals = ls.size) (hts : ∀ w ∈ tb, w.before args s = true) (hown : s.vm.findClass own = some m.cls) (hA : rf_A cx ad base) (hR : rf_R ocl OH D cx ad base s H h) (hloc : ∀ q ∈ locs, base ≤ q.base)
    {I : Instr} {idx : Nat} {kd : Int} {d : Nat × Nat} {st : List Value} {q' : List Value × rf_H} (he : rf_bi cx kd d st h = some q') (hI : (kd = 10 ∧ I = .invokespecial idx) ∨ (kd ≠ 10 ∧ I = .invokestatic idx)) (hd : decode cc pc = .ok (I, 3)) (hw : rf_wi8 tb own idx kd)
    (hfr : d.1 ≤ R.frames) (hlo : d.2 ≤ R.locals) (hc : cells ≤ R.cells) (hs : slots ≤ R.slots)
    (kk : ∀ (H' : Heap) (locs' : List Loc), rf_R ocl OH D cx ad base s H' q'.2 → (∀ q ∈ locs', base ≤ q.base) → W p l e R s m args below meth c H' locs' cells slots Q (F0 m (pc + 3) ls (q'.1.map (rf_cv ad)))) : q'.2.2 = h.2 ∧ W p l e R s m args below meth c H locs cells slots Q (F0 m pc ls (st.map (rf_cv ad))) := by
  unfold rf_bi at he
  split at he
  · rename_i hk
    obtain ⟨w1, w2, w3⟩ := hw.1 hk
    have hI2 : I = .invokespecial idx := by
      rcases hI with z | z
      · exact z.2
      · exact absurd hk z.1
    subst hI2
    split at he
    · rename_i a r
      split at he
      · rename_i h8
        cases he
        obtain ⟨r1, r2⟩ := rf_ok8_ok h8
        refine ⟨rfl, W.objInit hx hb hown (hts _ w1) (hts _ w2) (hts _ w3) rfl hml.symm rfl hd (by omega) ?_ (kk H locs hR hloc)⟩
        rw [rf_cats]
        show 2 * 0 + _ + 12 ≤ _
        omega
      · cases he
    · cases he
  · rename_i hk0
    have hI2 : I = .invokestatic idx := by
      rcases hI with z | z
      · exact absurd z.1 hk0
      · exact z.2
    subst hI2
    split at he
    · rename_i hk
      have wl := hw.2.1 hk
      split at he
      · rename_i n dp a1 sp a2 r
        split at he
        · rename_i h8
          obtain ⟨h8, ha1, ha2, i1, i2, i3⟩ := h8
          obtain ⟨r1, r2⟩ := rf_ok8_ok h8
          split at he
          · rename_i n1 n2 haa1 haa2
            split at he
            · rename_i hcc
              cases he
              exact ⟨rfl, rf_cpy_ok hx hb hml hts hown wl hA hR hloc (Or.inl rfl) (Nat.not_lt.mp ha1) (Nat.not_lt.mp ha2) haa1 haa2 i1 i2 i3 hcc.1 hcc.2 (fun ty' a' k' z => by cases ty' <;> simp [rf_rd, va_up, z]) (rf_cpyI ad h.1 a1 a2 _ _ _) (by omega) (by rw [rf_cats]; omega) hd kk⟩
            · cases he
          · rename_i n1 n2 haa1 haa2
            split at he
            · rename_i hcc
              cases he
              exact ⟨rfl, rf_cpy_ok hx hb hml hts hown wl hA hR hloc (Or.inr rfl) (Nat.not_lt.mp ha1) (Nat.not_lt.mp ha2) haa1 haa2 i1 i2 i3 hcc.1 hcc.2 (fun ty' a' k' z => by cases ty' <;> simp [rf_rd, va_up, z]) (rf_cpyL ad h.1 a1 a2 _ _ _) (by omega) (by rw [rf_cats]; omega) hd kk⟩
            · cases he
          · cases he
        · cases he
      · cases he
    · split at he
      · rename_i hk
        obtain ⟨w1, w2, w3, w4⟩ := hw.2.2.1 hk
        split at he
        · rename_i y x r
          split at he
          · rename_i h8
            cases he
            obtain ⟨r1, r2⟩ := rf_ok8_ok h8
            exact ⟨rfl, va_mmin hx hb hml hown (hts _ w1) (hts _ w2) (hts _ w3) (hts _ w4) (by omega) (by rw [rf_cats]; omega) hc hs hd (kk H locs hR hloc)⟩
          · cases he
        · cases he
      · split at he
        · rename_i hk
          obtain ⟨w1, w2, w3, w4⟩ := hw.2.2.2 hk
          split at he
          · rename_i y x r
            split at he
            · rename_i h8
              cases he
              obtain ⟨r1, r2⟩ := rf_ok8_ok h8
              exact ⟨rfl, va_mmax hx hb hml hown (hts _ w1) (hts _ w2) (hts _ w3) (hts _ w4) (by omega) (by rw [rf_cats]; omega) hc hs hd (kk H locs hR hloc)⟩
            · cases he
          · cases he
        · cases he
end RFB
end
section
/-! THE REFLECTION IS TRUE: calls, and the whole -/
/-- words that the frame's tables keep, though they are none of those that 'keeps' names -/
def rf_spk : Cond → Bool
  | .fieldLinkNest _ _ _ _ _ _ => true
  | .methodLinkNest _ _ _ _ => true
  | .declares _ => true
  | .castable _ _ => true
  | .arrayOver (.object _) => true
  | _ => false
theorem rf_sp_warm {w : Cond} (hk : rf_spk w = true) {s U : State} (hW : s.WarmedH U.vm) (hz : w.before #[] s = true) : w.before #[] U = true := by
  unfold rf_spk at hk
  split at hk
  · exact va_Nw.warmF hW hz
  · exact va_Nw.warmM hW hz
  · exact va_Nw.warmD hW hz
  · exact va_Nw.warmC hW hz
  · exact va_AO.moved hW.alike hz
  · cases hk
theorem rf_sp_same {w : Cond} (hk : rf_spk w = true) {s U : State} (hv : s.vm = U.vm) (hz : w.before #[] s = true) : w.before #[] U = true := by
  unfold rf_spk at hk
  split at hk
  · exact va_Nw.same rfl hv hz
  · exact va_Nw.same rfl hv hz
  · exact va_Nw.same rfl hv hz
  · exact va_Nw.same rfl hv hz
  · exact va_AO.moved (by rw [hv]; exact Vm.Alike.refl _) hz
  · cases hk
/-- beside the heap: the special words, the constant texts, the static numbers -/
def rf_E (sp : List Cond) (str : List (String × Nat × String × Nat)) (stt : List (String × String × String × Value)) (OH : Heap) (ad : Nat → Nat) (base : Nat) (U : State) : Prop :=
  (∀ w ∈ sp, w.before #[] U = true) ∧ (∀ q ∈ str, vk_R q.1 q.2.1 q.2.2.1 (ad q.2.2.2) U) ∧ ∀ q ∈ stt, va_Z q.1 q.2.1 q.2.2.1 (rf_cv ad q.2.2.2) (fun x => base ≤ x) U OH
theorem rf_E.warm {sp : List Cond} {str : List (String × Nat × String × Nat)} {stt : List (String × String × String × Value)} {OH : Heap} {ad : Nat → Nat} {base : Nat} {s U : State} (hs : ∀ w ∈ sp, rf_spk w = true) (hW : s.WarmedH U.vm) (h : rf_E sp str stt OH ad base s) : rf_E sp str stt OH ad base U :=
  ⟨fun w hw => rf_sp_warm (hs w hw) hW (h.1 w hw), fun q hq => vk_R.warm hW (h.2.1 q hq), fun q hq => va_Z.moved hW.alike (h.2.2 q hq)⟩
theorem rf_E.same {sp : List Cond} {str : List (String × Nat × String × Nat)} {stt : List (String × String × String × Value)} {OH : Heap} {ad : Nat → Nat} {base : Nat} {s U : State} (hs : ∀ w ∈ sp, rf_spk w = true) (hv : s.vm = U.vm) (h : rf_E sp str stt OH ad base s) : rf_E sp str stt OH ad base U :=
  ⟨fun w hw => rf_sp_same (hs w hw) hv (h.1 w hw), fun q hq => vk_R.same hv.symm (h.2.1 q hq), fun q hq => va_Z.moved (by rw [hv]; exact Vm.Alike.refl _) (h.2.2 q hq)⟩
def rf_ws (cx : rf_C) (tb : List Cond) (i : Nat) : List Cond := Cond.code (cx.2.1 i).1 (cx.2.1 i).2.1 (cx.2.1 i).2.2.1 (cx.2.1 i).2.2.2 :: tb
/-- a method that may be called -/
def rf_mo (cx : rf_C) (tb : List Cond) (np j : Nat) : Prop := Cond.code (cx.2.1 j).1 (cx.2.1 j).2.1 (cx.2.1 j).2.2.1 (cx.2.1 j).2.2.2 ∈ tb ∧ plainName (cx.2.1 j).1.cls = true ∧ ((cx.2.1 j).1.cls ≠ "java/lang/invoke/MethodHandle" ∧ (cx.2.1 j).1.cls ≠ "java/lang/invoke/VarHandle") ∧ (parseMethodDescriptor (cx.2.1 j).1.desc).map (fun d => d.parameters.length) = some np ∧ Cond.initialized (cx.2.1 j).1.cls ∈ tb
def rf_nm (cx : rf_C) (ocl : List vw_C) (z : Int) : Option String := if 0 ≤ z then (cx.2.2.2.1[z.toNat]?).map (fun q => q.1) else (ocl[(-z - 1).toNat]?).map (fun q => q.1)
/-- what a table of code says of its calls -/
def rf_wc (cx : rf_C) (ocl : List vw_C) (tb sp : List Cond) (own : String) (I : Instr) (aux : List (Int × Nat)) : Prop := match aux with
  | [] => False
  | q0 :: tg => match I with
    | .invokevirtual idx => ∀ q ∈ tg, rf_mo cx tb q0.2 q.2 ∧ Cond.instanceMethod (cx.2.1 q.2).1 ∈ tb ∧ ∃ C : String, rf_nm cx ocl q.1 = some C ∧
        ((Cond.methodLink own idx (cx.2.1 q.2).1 ∈ tb ∧ Cond.selects C (cx.2.1 q.2).1 (cx.2.1 q.2).1 ∈ tb) ∨
         (∃ (x : MethodName) (owner : String), Cond.methodLink own idx x ∈ tb ∧ Cond.sameMethod x.cls owner x.name x.desc ∈ tb ∧ (owner ≠ "java/lang/invoke/MethodHandle" ∧ owner ≠ "java/lang/invoke/VarHandle") ∧ Cond.declares ⟨owner, x.name, x.desc⟩ ∈ sp ∧ Cond.selects C x (cx.2.1 q.2).1 ∈ tb ∧ x.desc = (cx.2.1 q.2).1.desc) ∨
         (∃ host : String, Cond.methodLinkNest own idx (cx.2.1 q.2).1 host ∈ sp ∧ Cond.selects C (cx.2.1 q.2).1 (cx.2.1 q.2).1 ∈ tb))
    | .invokespecial idx => ∀ q ∈ tg, rf_mo cx tb q0.2 q.2 ∧ Cond.instanceMethod (cx.2.1 q.2).1 ∈ tb ∧ (cx.2.1 q.2).1.name = "<init>" ∧ (cx.2.1 q.2).2.2.2 = none ∧ (Cond.methodLink own idx (cx.2.1 q.2).1 ∈ tb ∨ ∃ host : String, Cond.methodLinkNest own idx (cx.2.1 q.2).1 host ∈ sp)
    | .invokestatic idx => ∀ q ∈ tg, rf_mo cx tb q0.2 q.2 ∧ Cond.static (cx.2.1 q.2).1 ∈ tb ∧ (Cond.methodLink own idx (cx.2.1 q.2).1 ∈ tb ∨ ∃ host : String, Cond.methodLinkNest own idx (cx.2.1 q.2).1 host ∈ sp)
    | _ => True
/-- what a table of code says of its constants -/
def rf_wp (tb : List Cond) (str : List (String × Nat × String × Nat)) (stt : List (String × String × String × Value)) (own : String) (I : Instr) (aux : List (Int × Nat)) : Prop := match aux, I with
  | [(0, k)], .ldc idx => Cond.constant own idx (Int32.ofNat k) ∈ tb
  | [(1, k)], .ldc2_w idx => Cond.constantLong own idx (Int64.ofNat k) ∈ tb
  | [(2, a)], .ldc idx => ∃ tx : String, (own, idx, tx, a) ∈ str
  | [(0, k)], .getstatic idx => ∃ C n d : String, (C, n, d, Value.int (Int32.ofNat k)) ∈ stt ∧ Cond.fieldLink own idx C n d ∈ tb
  | [(2, a)], .getstatic idx => ∃ C n d : String, (C, n, d, Value.ref a) ∈ stt ∧ Cond.fieldLink own idx C n d ∈ tb
  | [(3, _)], .getstatic idx => ∃ C n d : String, (C, n, d, Value.null) ∈ stt ∧ Cond.fieldLink own idx C n d ∈ tb
  | _, _ => False
def rf_iw (I : Instr) : Bool := match I with
  | .tableswitch _ _ _ _ => true
  | .lookupswitch _ _ => true
  | _ => false
/-- a table of code is right -/
def rf_wf (cx : rf_C) (ocl : List vw_C) (tb sp : List Cond) (str : List (String × Nat × String × Nat)) (stt : List (String × String × String × Value)) (i pc : Nat) (I : rf_I) : Prop :=
  (∃ len : Nat, decode (cx.2.1 i).2.1 pc = .ok (I.1, len) ∧ (rf_iw I.1 = true ∨ len = rf_len I.1)) ∧
  match rf_kd I.1 with
  | 3 => rf_wb I.1 I.2 pc = true
  | 4 => rf_wlk cx ocl tb sp (cx.2.1 i).1.cls (cx.2.1 i).1.name I.1 I.2
  | 5 => if 10 ≤ (I.2.headD (0, 0)).1 then ∃ idx : Nat, (((I.2.headD (0, 0)).1 = 10 ∧ I.1 = .invokespecial idx) ∨ ((I.2.headD (0, 0)).1 ≠ 10 ∧ I.1 = .invokestatic idx)) ∧ rf_wi8 tb (cx.2.1 i).1.cls idx (I.2.headD (0, 0)).1 else rf_wc cx ocl tb sp (cx.2.1 i).1.cls I.1 I.2
  | 7 => rf_wp tb str stt (cx.2.1 i).1.cls I.1 I.2
  | _ => True
theorem rf_args_map (ad : Nat → Nat) : ∀ (vs : List Value) (k : Nat), lv_args k (vs.map (rf_cv ad)) = (lv_args k vs).map (fun q => (q.1, rf_cv ad q.2)) := by
  intro vs
  induction vs with
  | nil => intro k; rfl
  | cons v t ih =>
    intro k
    show (k, rf_cv ad v) :: lv_args (if (rf_cv ad v).category = 2 then k + 2 else k + 1) (t.map (rf_cv ad)) = _
    rw [rf_cat, ih]
    rfl
theorem rf_sl_map (ad : Nat → Nat) (vs : List Value) : (lg_sl (vs.map (rf_cv ad))).length = (lg_sl vs).length := by
  induction vs with
  | nil => rfl
  | cons v t ih =>
    simp only [lg_sl, List.map_cons, List.flatMap_cons, List.length_append] at ih ⊢
    rw [ih, rf_cat]
    by_cases hc : v.category = 2 <;> simp [hc]
theorem rf_hp_mono {cx : rf_C} {I : Instr} {aux : List (Int × Nat)} {st : List Value} {h : rf_H} {q' : List Value × rf_H} (he : rf_hp cx I aux st h = some q') : h.2.2.1 ≤ q'.2.2.2.1 ∧ h.2.2.2 ≤ q'.2.2.2.2 := by
  unfold rf_hp at he
  repeat' split at he
  all_goals first
    | (cases he; done)
    | (cases he; exact ⟨Nat.le_refl _, Nat.le_refl _⟩)
    | (cases he; exact ⟨Nat.le_succ _, Nat.le_add_right _ _⟩)
theorem rf_bi_same {cx : rf_C} {kd : Int} {d : Nat × Nat} {st : List Value} {h : rf_H} {q' : List Value × rf_H} (he : rf_bi cx kd d st h = some q') : q'.2.2 = h.2 := by
  unfold rf_bi at he
  repeat' split at he
  all_goals first
    | (cases he; done)
    | (cases he; rfl)
end
section
/-! THE REFLECTION IS TRUE: by induction on the fuel -/
def rf_Pc (cx : rf_C) (ocl : List vw_C) (OH : Heap) (sp : List Cond) (str : List (String × Nat × String × Nat)) (stt : List (String × String × String × Value)) (D : va_G) (ad : Nat → Nat) (base : Nat) (as : List Value) (h : rf_H) : Array Value → State → Prop := fun v U => v = (as.map (rf_cv ad)).toArray ∧ rf_R ocl OH D cx ad base U U.heap h ∧ va_K D cx.2.2.2.1 [] U ∧ rf_E sp str stt OH ad base U
def rf_Qc (cx : rf_C) (ocl : List vw_C) (OH : Heap) (D : va_G) (ad : Nat → Nat) (base : Nat) (r : Option Value) (h : rf_H) : Array Value → State → Outcome → State → Prop := fun _ _ oc t => oc = .returned (r.map (rf_cv ad)) ∧ rf_R ocl OH D cx ad base t t.heap h
/-- what is proved of all runs of at most n steps -/
def rf_P (l : Launch) (cx : rf_C) (ocl : List vw_C) (OH : Heap) (tb sp : List Cond) (str : List (String × Nat × String × Nat)) (stt : List (String × String × String × Value)) (D : va_G) (ad : Nat → Nat) (base : Nat) (n : Nat) : Prop :=
  ∀ (d : Nat × Nat) (i pc : Nat) (lsA : rf_L) (st : List Value) (h : rf_H) (r : Option Value) (hF : rf_H), rf_ev cx n d i pc lsA st h = some (r, hF) →
    (h.2.2.1 ≤ hF.2.2.1 ∧ h.2.2.2 ≤ hF.2.2.2) ∧
    ∀ (p : Program) (e : Env) (R : Room) (s : State) (m : MethodId) (args : Array Value) (below : List Frame) (meth : Method) (c : Code) (H : Heap) (locs : List Loc) (cells slots : Nat) (Q : State → Prop) (lsM : Array Slot),
      p.tables.exec = Jvm.exec → c.code = (cx.2.1 i).2.1 → c.maxLocals = (cx.2.1 i).2.2.1 → s.vm.findClass (cx.2.1 i).1.cls = some m.cls → ((cx.2.1 i).1.name = "<init>" → meth.name = "<init>") → (∀ w ∈ tb, w.before args s = true) → rf_E sp str stt OH ad base s → va_K D cx.2.2.2.1 [] s →
      rf_R ocl OH D cx ad base s H h → (∀ q ∈ locs, base ≤ q.base) → lv_has lsM (cx.2.1 i).2.2.1 (lsA.map (fun q => (q.1, rf_cv ad q.2))) →
      d.1 ≤ R.frames → d.2 ≤ R.locals → cells + (hF.2.2.1 - h.2.2.1) ≤ R.cells → slots + (hF.2.2.2 - h.2.2.2) ≤ R.slots →
      (∀ (pcR : Nat) (IR : Instr) (HR : Heap) (locsR : List Loc) (lsR : Array Slot) (stR : List Value), decode (cx.2.1 i).2.1 pcR = .ok (IR, 1) → rf_rt IR (cx.2.1 i).2.2.2 stR = some r → rf_R ocl OH D cx ad base s HR hF → (∀ q ∈ locsR, base ≤ q.base) → W p l e R s m args below meth c HR locsR (cells + (hF.2.2.1 - h.2.2.1)) (slots + (hF.2.2.2 - h.2.2.2)) Q (F0 m pcR lsR (stR.map (rf_cv ad)))) →
      W p l e R s m args below meth c H locs cells slots Q (F0 m pc lsM (st.map (rf_cv ad)))
theorem rf_l0 {I : Instr} (h : rf_kd I = 0) : rf_len I = 1 := by cases I <;> first | rfl | (simp [rf_kd] at h)
theorem rf_l6 {I : Instr} (h : rf_kd I = 6) : rf_len I = 1 := by cases I <;> first | rfl | (simp [rf_kd] at h)
theorem rf_lw {I : Instr} (h : rf_kd I ≠ 3) : rf_iw I = false := by cases I <;> first | rfl | (exact absurd rfl h)
theorem rf_l3 {I : Instr} (h : rf_iw I = true) : (∃ a b c d, I = .tableswitch a b c d) ∨ ∃ a b, I = .lookupswitch a b := by
  cases I <;> first | exact Or.inl ⟨_, _, _, _, rfl⟩ | exact Or.inr ⟨_, _, rfl⟩ | (simp [rf_iw] at h)
section RFC
variable {p : Program} {l : Launch} {e : Env} {R : Room} {s : State} {m : MethodId} {args : Array Value} {below : List Frame} {meth : Method} {c : Code} {H : Heap} {locs : List Loc} {cells slots : Nat} {Q : State → Prop}
variable {pc : Nat} {lsM : Array Slot} {D : va_G} {cx : rf_C} {ad : Nat → Nat} {base : Nat} {ocl : List vw_C} {OH : Heap} {tb sp : List Cond} {str : List (String × Nat × String × Nat)} {stt : List (String × String × String × Value)} {own : String} {h : rf_H}
/-- behind a call -/
theorem rf_cont {mc ms : Nat} {stM restM : List Value} {a : Array Value} {r : Option Value} {h' : rf_H} (hrun : va_Run p l e R s m args below meth c H locs cells slots mc ms (F0 m pc lsM stM) restM (rf_Qc cx ocl OH D ad base r h' a) (fun q => base ≤ q)) (hloc : ∀ q ∈ locs, base ≤ q.base)
    (kk : ∀ (H' : Heap) (locs' : List Loc), rf_R ocl OH D cx ad base s H' h' → (∀ q ∈ locs', base ≤ q.base) → W p l e R s m args below meth c H' locs' (cells + mc) (slots + ms) Q (F0 m (pc + 3) lsM ((r.map (rf_cv ad)).toList ++ restM))) : W p l e R s m args below meth c H locs cells slots Q (F0 m pc lsM stM) := by
  intro T hT X
  obtain ⟨v, st₀, t, T', L, h0, X', hL, e1, e2, ⟨hv, hR'⟩, st⟩ := hrun T hT X
  have hv2 : v = r.map (rf_cv ad) := by injection hv
  subst hv2
  obtain ⟨t2, a1, b1⟩ := kk T'.heap (locs ++ L) (by
      rw [e1]
      exact hR'.moved (by rw [← e2]; exact X'.warmed.alike.symm)) (fun q hq => by
      rcases List.mem_append.mp hq with z | z
      · exact hloc q z
      · exact hL q z) T' rfl X'
  exact ⟨t2, st t2 a1, b1⟩
theorem rf_blind (hspk : ∀ w ∈ sp, rf_spk w = true) (as : List Value) : FrameBlind (rf_Pc cx ocl OH sp str stt D ad base as h) := by
  intro a U g mk hp
  obtain ⟨h1, h2, h3, h4⟩ := hp
  exact ⟨h1, rf_R.moved (u := U) (U := U.calling g mk a) (Vm.Alike.refl U.vm) h2, va_K.moved (u := U) (U := U.calling g mk a) (Vm.Alike.refl U.vm) h3, rf_E.same (s := U) (U := U.calling g mk a) hspk rfl h4⟩
theorem rf_pre (hspk : ∀ w ∈ sp, rf_spk w = true) (as : List Value) (hR : rf_R ocl OH D cx ad base s H h) (hK : va_K D cx.2.2.2.1 [] s) (hE : rf_E sp str stt OH ad base s) : ∀ U : State, U.heap = H → s.WarmedH U.vm → rf_Pc cx ocl OH sp str stt D ad base as h (as.map (rf_cv ad)).toArray U := by
  intro U hU hW
  exact ⟨rfl, by rw [hU]; exact hR.moved hW.alike, va_K.moved hW.alike hK, hE.warm hspk hW⟩
theorem rf_recv (hK : va_K D cx.2.2.2.1 [] s) (hR : rf_R ocl OH D cx ad base s H h) {a ci : Nat} (hob : rf_ob h a = some ci) {C : String} (hC : rf_nm cx ocl (rf_ky cx.2.2.2.2 a ci) = some C) : ∃ cell : Cell, H[ad a]? = some cell ∧ cell.vm.isStatics = false ∧ s.vm.findClass C = some cell.cls := by
  obtain ⟨hap, ha, hsh⟩ := rf_ob_ok hob
  unfold rf_nm rf_ky at hC
  by_cases ha1 : a < cx.2.2.2.2
  · rw [if_pos ha1, if_neg (by omega)] at hC
    rw [show (-(-(ci : Int) - 1) - 1).toNat = ci by omega] at hC
    have hq := hR.2.1 a hap ha1
    rw [hsh] at hq
    obtain ⟨r, hr, ⟨cell, q1, q2, q3⟩, -⟩ := hq
    rw [hr] at hC
    have : r.1 = C := Option.some.inj hC
    subst this
    exact ⟨cell, q1, q2, q3⟩
  · rw [if_neg ha1, if_pos (Int.natCast_nonneg ci)] at hC
    have hq := hR.1 a (Nat.not_lt.mp ha1) ha
    rw [hsh] at hq
    obtain ⟨r, hr, cell, q1, q2, q3, -⟩ := hq
    simp only [Int.toNat_natCast] at hC
    rw [hr] at hC
    have : r.1 = C := Option.some.inj hC
    subst this
    exact ⟨cell, q1, by rw [q3]; rfl, by rw [q2]; exact (hK.1 ci r hr).2.1⟩
set_option maxHeartbeats 4000000 in
/-- the end of a method -/
theorem rf_rt_ok {cc : ByteArray} (ad : Nat → Nat) {Qc : Array Value → State → Outcome → State → Prop} {free : Addr → Prop} {ret : Option FieldType} {I : Instr} {st : List Value} {r : Option Value} (hx : p.tables.exec = Jvm.exec) (hb : c.code = cc) (hr : meth.sig.returnType = ret) (hlocks : meth.locks = false) (hrt : rf_rt I ret st = some r) (hd : decode cc pc = .ok (I, 1))
    (hq : ∀ t : State, t.heap = H → s.WarmedH t.vm → Qc args s (.returned (r.map (rf_cv ad))) t) (hf : ∀ q ∈ locs, free q.base) : W p l e R s m args below meth c H locs cells slots (MQ below Qc args s cells slots free) (F0 m pc lsM (st.map (rf_cv ad))) := by
  unfold rf_rt at hrt
  split at hrt
  · cases hrt; exact W.iret (hlocks := hlocks) hx hb hr hq hf hd
  · split at hrt
    · rename_i hn; cases hrt; exact W.zret (hlocks := hlocks) hx hb hr hn hq hf hd
    · cases hrt
  · split at hrt
    · rename_i hn; cases hrt; exact W.zret (hlocks := hlocks) hx hb hr hn hq hf hd
    · cases hrt
  · split at hrt
    · rename_i hn; cases hrt; exact W.zret (hlocks := hlocks) hx hb hr hn hq hf hd
    · cases hrt
  · split at hrt
    · rename_i hn; cases hrt; exact W.zret (hlocks := hlocks) hx hb hr hn hq hf hd
    · cases hrt
  · cases hrt; exact W.lret (hlocks := hlocks) hx hb hr hq hf hd
  · cases hrt; exact W.aret (hlocks := hlocks) hx hb hr (Or.inl ⟨_, rfl⟩) (Or.inr ⟨_, rfl⟩) hq hf hd
  · cases hrt; exact W.aret (hlocks := hlocks) hx hb hr (Or.inl ⟨_, rfl⟩) (Or.inl rfl) hq hf hd
  · cases hrt; exact W.aret (hlocks := hlocks) hx hb hr (Or.inr ⟨_, rfl⟩) (Or.inr ⟨_, rfl⟩) hq hf hd
  · cases hrt; exact W.aret (hlocks := hlocks) hx hb hr (Or.inr ⟨_, rfl⟩) (Or.inl rfl) hq hf hd
  · cases hrt; exact W.vret (hlocks := hlocks) hx hb hr hq hf hd
  · cases hrt
end RFC
set_option maxHeartbeats 4000000 in
/-- a contract of a method out of the runs of the evaluator -/
theorem rf_met {l : Launch} {cx : rf_C} {ocl : List vw_C} {OH : Heap} {tb sp : List Cond} {str : List (String × Nat × String × Nat)} {stt : List (String × String × String × Value)} {D : va_G} {ad : Nat → Nat} {base n : Nat} (hP : rf_P l cx ocl OH tb sp str stt D ad base n)
    {d : Nat × Nat} {j : Nat} {as : List Value} {h h' : rf_H} {r : Option Value} (he : rf_ev cx n d j 0 (lv_args 0 as) [] h = some (r, h')) (hsl : (lg_sl as).length ≤ (cx.2.1 j).2.2.1) (hpl : plainName (cx.2.1 j).1.cls = true) :
    Met l (cx.2.1 j).1 (rf_ws cx tb j) ({ frames := d.1, cells := h'.2.2.1 - h.2.2.1, slots := h'.2.2.2 - h.2.2.2, locals := d.2 }) (rf_Pc cx ocl OH sp str stt D ad base as h) (rf_Qc cx ocl OH D ad base r h') (h'.2.2.1 - h.2.2.1) (h'.2.2.2 - h.2.2.2) (fun q => base ≤ q) := by
  refine Met.ofW (cc := (cx.2.1 j).2.1) (maxL := (cx.2.1 j).2.2.1) (ret := (cx.2.1 j).2.2.2) hpl rfl ?_
  intro p e s m args below meth c s₁ B hml hv
  obtain ⟨rfl, hR, hK, hE⟩ := hv
  have hts := atoms_spec (ws := rf_ws cx tb j) B.pre
  have hl := lv_entry (as.map (rf_cv ad)) (n := (cx.2.1 j).2.2.1) (by rw [rf_sl_map]; exact hsl)
  rw [rf_args_map] at hl
  rw [lg_entry_eq]
  obtain ⟨-, hW⟩ := hP d j 0 (lv_args 0 as) [] h r h' he
  have hlocks := B.notSynchronized
  refine hW p e _ s m _ below meth c s.heap [] 0 0 _ _ B.exec B.bytes hml (findClass_of_methodNamed B.named) (fun z => (name_of_methodNamed B.named B.method).1.trans z) (fun w hw => hts w (List.mem_cons_of_mem _ hw)) hE hK hR (fun q hq => by cases hq) hl (Nat.le_refl _) (Nat.le_refl _) (by rw [Nat.zero_add]; exact Nat.le_refl _) (by rw [Nat.zero_add]; exact Nat.le_refl _) ?_
  intro pcR IR HR locsR lsR stR hd hrt hRR hloc
  rw [Nat.zero_add, Nat.zero_add]
  have hq : ∀ t : State, t.heap = HR → s.WarmedH t.vm → rf_Qc cx ocl OH D ad base r h' (as.map (rf_cv ad)).toArray s (.returned (r.map (rf_cv ad))) t := fun t ht hW => ⟨rfl, by rw [ht]; exact hRR.moved hW.alike⟩
  exact rf_rt_ok ad B.exec B.bytes B.returns hlocks hrt hd hq hloc
end
section
/-- the calls of a table of code, run by the machine -/
theorem rf_ca_ok {p : Program} {l : Launch} {e : Env} {R : Room} {s : State} {m : MethodId} {args : Array Value} {below : List Frame} {meth : Method} {c : Code} {H : Heap} {locs : List Loc} {cells slots : Nat} {Q : State → Prop} {pc : Nat} {lsM : Array Slot} {D : va_G} {cx : rf_C} {ad : Nat → Nat} {base : Nat} {ocl : List vw_C} {OH : Heap} {tb sp : List Cond} {str : List (String × Nat × String × Nat)} {stt : List (String × String × String × Value)} {own : String} {h h' : rf_H} {cc : ByteArray} {nL : Nat}
    (hx : p.tables.exec = Jvm.exec) (hb : c.code = cc) (hml : c.maxLocals = nL) (hlz : lsM.size = nL) (hown : s.vm.findClass own = some m.cls) (hts : ∀ w ∈ tb, w.before args s = true) (hgood : ∀ w ∈ tb, (w.onTables && w.keeps) = true ∨ ∃ ty, w = .arrayClass ty) (hspk : ∀ w ∈ sp, rf_spk w = true) (hE : rf_E sp str stt OH ad base s) (hK : va_K D cx.2.2.2.1 [] s) (hR : rf_R ocl OH D cx ad base s H h) (hloc : ∀ q ∈ locs, base ≤ q.base)
    {I : Instr} {aux : List (Int × Nat)} {st : List Value} {q : Nat × List Value × List Value} (hca : rf_ca cx I aux st h = some q) (hwc : rf_wc cx ocl tb sp own I aux) (hd : decode cc pc = .ok (I, 3)) {rm : Room} {r : Option Value} {mc ms : Nat} (hrc : rm.cells = mc) (hrs : rm.slots = ms)
    (hM : plainName (cx.2.1 q.1).1.cls = true → Met l (cx.2.1 q.1).1 (rf_ws cx tb q.1) rm (rf_Pc cx ocl OH sp str stt D ad base q.2.1 h) (rf_Qc cx ocl OH D ad base r h') mc ms (fun q => base ≤ q)) (hfr : rm.frames + 1 ≤ R.frames) (hlo : 8 + ((cx.2.1 q.1).2.2.1 + 11) + rm.locals ≤ R.locals) (hf : cells + mc ≤ R.cells ∧ slots + ms ≤ R.slots)
    (kk : ∀ (H' : Heap) (locs' : List Loc), rf_R ocl OH D cx ad base s H' h' → (∀ q ∈ locs', base ≤ q.base) → W p l e R s m args below meth c H' locs' (cells + mc) (slots + ms) Q (F0 m (pc + 3) lsM ((r.toList ++ q.2.2).map (rf_cv ad)))) : W p l e R s m args below meth c H locs cells slots Q (F0 m pc lsM (st.map (rf_cv ad))) := by
  have kk2 : ∀ (H' : Heap) (locs' : List Loc), rf_R ocl OH D cx ad base s H' h' → (∀ q ∈ locs', base ≤ q.base) → W p l e R s m args below meth c H' locs' (cells + mc) (slots + ms) Q (F0 m (pc + 3) lsM ((r.map (rf_cv ad)).toList ++ q.2.2.map (rf_cv ad))) := by
    intro H' locs' h1 h2
    have h3 := kk H' locs' h1 h2
    have h4 : (r.toList ++ q.2.2).map (rf_cv ad) = (r.map (rf_cv ad)).toList ++ q.2.2.map (rf_cv ad) := by cases r <;> simp
    rw [h4] at h3
    exact h3
  have hfix : CallFix p m c cc nL s args tb own := ⟨hx, hb, hml, hown, hts⟩
  have hgi : ∀ j : Nat, Cond.code (cx.2.1 j).1 (cx.2.1 j).2.1 (cx.2.1 j).2.2.1 (cx.2.1 j).2.2.2 ∈ tb → GoodIn tb (rf_ws cx tb j) := by
    intro j hj w hw
    rcases List.mem_cons.mp hw with z | z
    · subst z; exact ⟨hj, hgood _ hj⟩
    · exact ⟨z, hgood _ z⟩
  unfold rf_ca at hca
  split at hca
  · rename_i q0 tg
    split at hca
    · -- invokevirtual
      rename_i idx a rr heq
      split at hca
      · rename_i ci hob
        split at hca
        · rename_i j hlk
          split at hca
          · rename_i hc
            cases hca
            obtain ⟨⟨m1, m2, m3, m4, m5⟩, hin, C, hC, hlink⟩ := hwc _ (rf_lk_ok hlk)
            have hlen : ((st.take q0.2).reverse.map (rf_cv ad)).length = q0.2 := by simp [Nat.min_eq_left hc.1]
            have hst : st.map (rf_cv ad) = ((st.take q0.2).reverse.map (rf_cv ad)).reverse ++ .ref (ad a) :: rr.map (rf_cv ad) := by
              have h5 := List.take_append_drop q0.2 st
              rw [heq] at h5
              rw [← List.map_reverse, List.reverse_reverse]
              conv => lhs; rw [← h5]
              simp [rf_cv]
            have hrec := rf_recv hK hR hob hC
            have hpv : PreV s H C (ad a) (rf_Pc cx ocl OH sp str stt D ad base (.ref a :: (st.take q0.2).reverse) h) ((st.take q0.2).reverse.map (rf_cv ad)) := ⟨rf_blind hspk _, hrec, fun U hU hW => rf_pre hspk (.ref a :: (st.take q0.2).reverse) hR hK hE U hU hW⟩
            have hcat : 2 * (F0 m pc lsM (st.map (rf_cv ad))).monitorRoom + ((rr.map (rf_cv ad)).map fun v => v.category).sum ≤ 8 := lv_room (by rw [rf_cats]; exact hc.2)
            rcases hlink with ⟨h6, h7⟩ | ⟨x, owner, h6, h7, h8, h9, h10, h11⟩ | ⟨host, h6, h7⟩
            · exact rf_cont (va_runV hfix (hM m2) ⟨callB_of q0.2 hts (hgi j m1) rfl hrc hrs (hts _ m5) (hts _ h6) ⟨m3.1, m3.2, m4⟩ ⟨hfr, hlo⟩, hts _ hin, hts _ h7⟩ hpv rfl hlen hlz hst hcat hd hf) hloc kk2
            · refine rf_cont (va_runU (x := x) (owner := owner) hfix (hM m2) ⟨⟨hrc, hrs, hfr, hlo, pay_in hts (hgi j m1), List.mem_cons_self⟩, hts _ m1, hts _ m5, h8, fun sig hs => ?_, hts _ h6, hts _ h7, va_Decl.abs (hE.1 _ h9), hts _ h10, hts _ hin⟩ hpv rfl hlen hlz hst hcat hd hf) hloc kk2
              rw [h11] at hs
              rw [hs] at m4
              exact (Option.some.inj m4).symm
            · refine rf_cont (va_runVN (host := host) hfix (hM m2) ⟨⟨⟨hrc, hrs, hfr, hlo, pay_in hts (hgi j m1), List.mem_cons_self⟩, hts _ m1, hts _ m5, m3, fun sig hs => ?_, va_Nw.use rfl (hE.1 _ h6)⟩, hts _ hin, hts _ h7⟩ hpv rfl hlen hlz hst hcat hd hf) hloc kk2
              rw [hs] at m4
              exact (Option.some.inj m4).symm
          · cases hca
        · cases hca
      · cases hca
    · -- invokespecial
      rename_i idx a rr heq
      split at hca
      · rename_i z0 j
        split at hca
        · rename_i hc
          cases hca
          obtain ⟨⟨m1, m2, m3, m4, m5⟩, hin, hnm, hrt, hlink⟩ := hwc (z0, j) (List.mem_singleton.mpr rfl)
          have hlen : ((st.take q0.2).reverse.map (rf_cv ad)).length = q0.2 := by simp [Nat.min_eq_left hc.1]
          have hst : st.map (rf_cv ad) = ((st.take q0.2).reverse.map (rf_cv ad)).reverse ++ .ref (ad a) :: rr.map (rf_cv ad) := by
            have h5 := List.take_append_drop q0.2 st
            rw [heq] at h5
            rw [← List.map_reverse, List.reverse_reverse]
            conv => lhs; rw [← h5]
            simp [rf_cv]
          have hpv : PreS s H (rf_Pc cx ocl OH sp str stt D ad base (.ref a :: (st.take q0.2).reverse) h) (.ref (ad a) :: (st.take q0.2).reverse.map (rf_cv ad)) := ⟨rf_blind hspk _, fun U hU hW => rf_pre hspk (.ref a :: (st.take q0.2).reverse) hR hK hE U hU hW⟩
          have hcat : 2 * (F0 m pc lsM (st.map (rf_cv ad))).monitorRoom + ((rr.map (rf_cv ad)).map fun v => v.category).sum ≤ 8 := lv_room (by rw [rf_cats]; exact hc.2)
          have hw0 : rf_ws cx tb j = Cond.code (cx.2.1 j).1 (cx.2.1 j).2.1 (cx.2.1 j).2.2.1 none :: tb := by unfold rf_ws; rw [hrt]
          rcases hlink with h6 | ⟨host, h6⟩
          · exact rf_cont (va_runI hfix (hM m2) ⟨callB_of q0.2 hts (hgi j m1) hw0 hrc hrs (hts _ m5) (hts _ h6) ⟨m3.1, m3.2, m4⟩ ⟨hfr, hlo⟩, hnm, hts _ hin⟩ hpv rfl hlen hlz hst hcat hd hf) hloc kk2
          · refine rf_cont (va_runIN (host := host) hfix (hM m2) ⟨⟨⟨hrc, hrs, hfr, hlo, pay_in hts (hgi j m1), by rw [hw0]; exact List.mem_cons_self⟩, by rw [hrt] at m1; exact hts _ m1, hts _ m5, m3, fun sig hs => ?_, va_Nw.use rfl (hE.1 _ h6)⟩, hnm, hts _ hin⟩ hpv rfl hlen hlz hst hcat hd hf) hloc kk2
            rw [hs] at m4
            exact (Option.some.inj m4).symm
        · cases hca
      · cases hca
    · -- invokestatic
      rename_i idx
      split at hca
      · rename_i z0 j
        split at hca
        · rename_i hc
          cases hca
          obtain ⟨⟨m1, m2, m3, m4, m5⟩, hstat, hlink⟩ := hwc (z0, j) (List.mem_singleton.mpr rfl)
          have hlen : ((st.take q0.2).reverse.map (rf_cv ad)).length = q0.2 := by simp [Nat.min_eq_left hc.1]
          have hst : st.map (rf_cv ad) = ((st.take q0.2).reverse.map (rf_cv ad)).reverse ++ (st.drop q0.2).map (rf_cv ad) := by
            have h5 := List.take_append_drop q0.2 st
            rw [← List.map_reverse, List.reverse_reverse]
            conv => lhs; rw [← h5]
            simp
          have hpv : PreS s H (rf_Pc cx ocl OH sp str stt D ad base (st.take q0.2).reverse h) ((st.take q0.2).reverse.map (rf_cv ad)) := ⟨rf_blind hspk _, fun U hU hW => rf_pre hspk (st.take q0.2).reverse hR hK hE U hU hW⟩
          have hcat : 2 * (F0 m pc lsM (st.map (rf_cv ad))).monitorRoom + (((st.drop q0.2).map (rf_cv ad)).map fun v => v.category).sum ≤ 8 := lv_room (by rw [rf_cats]; exact hc.2)
          rcases hlink with h6 | ⟨host, h6⟩
          · exact rf_cont (va_runS hfix (hM m2) ⟨callB_of q0.2 hts (hgi j m1) rfl hrc hrs (hts _ m5) (hts _ h6) ⟨m3.1, m3.2, m4⟩ ⟨hfr, hlo⟩, hts _ hstat⟩ hpv rfl hlen hlz hst hcat hd hf) hloc kk2
          · refine rf_cont (va_runSN (host := host) hfix (hM m2) ⟨⟨⟨hrc, hrs, hfr, hlo, pay_in hts (hgi j m1), List.mem_cons_self⟩, hts _ m1, hts _ m5, m3, fun sig hs => ?_, va_Nw.use rfl (hE.1 _ h6)⟩, hts _ hstat, trivial⟩ hpv rfl hlen hlz hst hcat hd hf) hloc kk2
            rw [hs] at m4
            exact (Option.some.inj m4).symm
        · cases hca
      · cases hca
    · cases hca
  · cases hca
/-- constants of the pool, run by the machine -/
theorem rf_po_ok {p : Program} {l : Launch} {e : Env} {R : Room} {s : State} {m : MethodId} {args : Array Value} {below : List Frame} {meth : Method} {c : Code} {H : Heap} {locs : List Loc} {cells slots : Nat} {Q : State → Prop} {pc : Nat} {lsM : Array Slot} {D : va_G} {cx : rf_C} {ad : Nat → Nat} {base : Nat} {ocl : List vw_C} {OH : Heap} {tb sp : List Cond} {str : List (String × Nat × String × Nat)} {stt : List (String × String × String × Value)} {own : String} {h : rf_H} {cc : ByteArray}
    (hx : p.tables.exec = Jvm.exec) (hb : c.code = cc) (hown : s.vm.findClass own = some m.cls) (hts : ∀ w ∈ tb, w.before args s = true) (hE : rf_E sp str stt OH ad base s) (hR : rf_R ocl OH D cx ad base s H h)
    {I : Instr} {aux : List (Int × Nat)} {st st' : List Value} (he : rf_po aux st = some st') (hwp : rf_wp tb str stt own I aux) (hd : decode cc pc = .ok (I, rf_len I))
    (kk : W p l e R s m args below meth c H locs cells slots Q (F0 m (pc + rf_len I) lsM (st'.map (rf_cv ad)))) : W p l e R s m args below meth c H locs cells slots Q (F0 m pc lsM (st.map (rf_cv ad))) := by
  unfold rf_wp at hwp
  split at hwp
  · simp only [rf_po] at he
    cases he
    exact lv_ldc hx hb hown (hts _ hwp) hd kk
  · simp only [rf_po] at he
    cases he
    exact lv_ldc2 hx hb hown (hts _ hwp) hd kk
  · simp only [rf_po] at he
    cases he
    obtain ⟨tx, h1⟩ := hwp
    exact va_ldcS hx hb hown (hE.2.1 _ h1) hd kk
  · simp only [rf_po] at he
    cases he
    obtain ⟨C, n, dd, h1, h2⟩ := hwp
    obtain ⟨cf, kf, fi, f, a, cell, g1, g2, g3, g4, g5, g6, g7, g8⟩ := hE.2.2 _ h1
    exact W.gets hx hb hown (hts _ h2) g1 g2 g3 g4 (by rw [hR.2.2.2.2 a (Nat.not_le.mp g8)]; exact g5) (fun z => by rw [z] at g6; cases g6) g7 rfl hd kk
  · simp only [rf_po] at he
    cases he
    obtain ⟨C, n, dd, h1, h2⟩ := hwp
    obtain ⟨cf, kf, fi, f, a, cell, g1, g2, g3, g4, g5, g6, g7, g8⟩ := hE.2.2 _ h1
    exact W.gets hx hb hown (hts _ h2) g1 g2 g3 g4 (by rw [hR.2.2.2.2 a (Nat.not_le.mp g8)]; exact g5) (fun z => by rw [z] at g6; cases g6) g7 rfl hd kk
  · simp only [rf_po] at he
    cases he
    obtain ⟨C, n, dd, h1, h2⟩ := hwp
    obtain ⟨cf, kf, fi, f, a, cell, g1, g2, g3, g4, g5, g6, g7, g8⟩ := hE.2.2 _ h1
    exact W.gets hx hb hown (hts _ h2) g1 g2 g3 g4 (by rw [hR.2.2.2.2 a (Nat.not_le.mp g8)]; exact g5) (fun z => by rw [z] at g6; cases g6) g7 rfl hd kk
  · exact hwp.elim
set_option maxHeartbeats 8000000 in
/-- THE REFLECTION IS TRUE -/
theorem rf_main {l : Launch} {cx : rf_C} {ocl : List vw_C} {OH : Heap} {tb sp : List Cond} {str : List (String × Nat × String × Nat)} {stt : List (String × String × String × Value)} {D : va_G} {ad : Nat → Nat} {base : Nat}
    (hwf : ∀ (i pc : Nat) (I : rf_I), cx.1 i pc = some I → rf_wf cx ocl tb sp str stt i pc I) (hG : rf_G cx tb) (hA : rf_A cx ad base) (hgood : ∀ w ∈ tb, (w.onTables && w.keeps) = true ∨ ∃ ty, w = .arrayClass ty) (hspk : ∀ w ∈ sp, rf_spk w = true) : ∀ n : Nat, rf_P l cx ocl OH tb sp str stt D ad base n := by
  intro n
  induction n with
  | zero =>
    intro d i pc lsA st h r hF he
    unfold rf_ev at he
    cases he
  | succ n ih =>
    intro d i pc lsA st h r hF he
    unfold rf_ev at he
    split at he
    · cases he
    rename_i I hI
    obtain ⟨⟨len, hdec, hlen⟩, hw⟩ := hwf i pc I hI
    have hdl : rf_kd I.1 ≠ 3 → decode (cx.2.1 i).2.1 pc = .ok (I.1, rf_len I.1) := by
      intro h3
      rcases hlen with z | z
      · rw [rf_lw h3] at z; cases z
      · rw [← z]; exact hdec
    split at he
    · cases he
    · -- a step
      rename_i q hex
      obtain ⟨mono, cont⟩ := ih d i q.1 q.2.1 q.2.2.1 q.2.2.2 r hF he
      unfold rf_ex at hex
      split at hex
      · rename_i hk
        obtain ⟨x, h1, h2⟩ := Option.map_eq_some_iff.mp hex
        have h2 := Sum.inl.inj h2
        subst h2
        refine ⟨mono, fun p e R s m args below meth c H locs cells slots Q lsM hx hb hml hown hnm hts hE hK hR hloc hl h8 h9 h10 h11 hret => ?_⟩
        have hd := hdl (by rw [hk]; decide)
        rw [rf_l0 hk] at hd
        exact rf_ar_ok hx hb ad h1 hd (cont p e R s m args below meth c H locs cells slots Q lsM hx hb hml hown hnm hts hE hK hR hloc hl h8 h9 h10 h11 hret)
      · rename_i hk
        obtain ⟨x, h1, h2⟩ := Option.map_eq_some_iff.mp hex
        have h2 := Sum.inl.inj h2
        subst h2
        refine ⟨mono, fun p e R s m args below meth c H locs cells slots Q lsM hx hb hml hown hnm hts hE hK hR hloc hl h8 h9 h10 h11 hret => ?_⟩
        have hd := hdl (by rw [hk]; decide)
        exact rf_lo_ok hx hb ad h1 hd hl (cont p e R s m args below meth c H locs cells slots Q lsM hx hb hml hown hnm hts hE hK hR hloc hl h8 h9 h10 h11 hret)
      · rename_i hk
        obtain ⟨x, h1, h2⟩ := Option.map_eq_some_iff.mp hex
        have h2 := Sum.inl.inj h2
        subst h2
        refine ⟨mono, fun p e R s m args below meth c H locs cells slots Q lsM hx hb hml hown hnm hts hE hK hR hloc hl h8 h9 h10 h11 hret => ?_⟩
        have hd := hdl (by rw [hk]; decide)
        exact rf_so_ok hx hb ad h1 hd hl (fun ls' hl' => cont p e R s m args below meth c H locs cells slots Q ls' hx hb hml hown hnm hts hE hK hR hloc hl' h8 h9 h10 h11 hret)
      · rename_i hk
        obtain ⟨x, h1, h2⟩ := Option.map_eq_some_iff.mp hex
        have h2 := Sum.inl.inj h2
        subst h2
        rw [hk] at hw
        refine ⟨mono, fun p e R s m args below meth c H locs cells slots Q lsM hx hb hml hown hnm hts hE hK hR hloc hl h8 h9 h10 h11 hret => ?_⟩
        refine rf_br_ok hx hb ad (fun x y z1 z2 z3 => hA.inj z1 z2 z3) h1 hdec ?_ hw (cont p e R s m args below meth c H locs cells slots Q lsM hx hb hml hown hnm hts hE hK hR hloc hl h8 h9 h10 h11 hret)
        rcases hlen with z | z
        · exact Or.inr (rf_l3 z)
        · exact Or.inl z
      · rename_i hk
        obtain ⟨x, h1, h2⟩ := Option.map_eq_some_iff.mp hex
        have h2 := Sum.inl.inj h2
        subst h2
        rw [hk] at hw
        obtain ⟨o1, o2⟩ := rf_hp_mono h1
        dsimp only at mono cont
        refine ⟨⟨Nat.le_trans o1 mono.1, Nat.le_trans o2 mono.2⟩, fun p e R s m args below meth c H locs cells slots Q lsM hx hb hml hown hnm hts hE hK hR hloc hl h8 h9 h10 h11 hret => ?_⟩
        have hd := hdl (by rw [hk]; decide)
        have e1 : cells + (x.2.2.2.1 - h.2.2.1) + (hF.2.2.1 - x.2.2.2.1) = cells + (hF.2.2.1 - h.2.2.1) := by have := mono.1; omega
        have e2 : slots + (x.2.2.2.2 - h.2.2.2) + (hF.2.2.2 - x.2.2.2.2) = slots + (hF.2.2.2 - h.2.2.2) := by have := mono.2; omega
        refine rf_hp_ok hx hb hts hE.1 hG hown hK hA hR hloc h1 hd hw hnm (by omega) (by omega) (fun H' locs' hR' hloc' => ?_)
        refine cont p e R s m args below meth c H' locs' _ _ Q lsM hx hb hml hown hnm hts hE hK hR' hloc' hl h8 h9 (by rw [e1]; exact h10) (by rw [e2]; exact h11) ?_
        rw [e1, e2]
        exact hret
      · rename_i hk
        rw [hk] at hw
        split at hex
        · rename_i h10k
          obtain ⟨x, h1, h2⟩ := Option.map_eq_some_iff.mp hex
          have h2 := Sum.inl.inj h2
          subst h2
          rw [if_pos h10k] at hw
          obtain ⟨idx, hI5, hw8⟩ := hw
          have o1 := rf_bi_same h1
          dsimp only at mono cont
          rw [o1] at mono cont
          refine ⟨mono, fun p e R s m args below meth c H locs cells slots Q lsM hx hb hml hown hnm hts hE hK hR hloc hl h8 h9 h10 h11 hret => ?_⟩
          have hd := hdl (by rw [hk]; decide)
          have hl3 : rf_len I.1 = 3 := by rcases hI5 with z | z <;> rw [z.2] <;> rfl
          rw [hl3] at hd
          exact (rf_bi_ok hx hb (hml.trans hl.1.symm) hts hown hA hR hloc h1 hI5 hd hw8 h8 h9 (by omega) (by omega) (fun H' locs' hR' hloc' => cont p e R s m args below meth c H' locs' cells slots Q lsM hx hb hml hown hnm hts hE hK hR' hloc' hl h8 h9 h10 h11 hret)).2
        · obtain ⟨x, h1, h2⟩ := Option.map_eq_some_iff.mp hex
          cases h2
      · obtain ⟨x, h1, h2⟩ := Option.map_eq_some_iff.mp hex
        cases h2
      · rename_i hk
        obtain ⟨x, h1, h2⟩ := Option.map_eq_some_iff.mp hex
        have h2 := Sum.inl.inj h2
        subst h2
        rw [hk] at hw
        refine ⟨mono, fun p e R s m args below meth c H locs cells slots Q lsM hx hb hml hown hnm hts hE hK hR hloc hl h8 h9 h10 h11 hret => ?_⟩
        have hd := hdl (by rw [hk]; decide)
        exact rf_po_ok hx hb hown hts hE hR h1 hw hd (cont p e R s m args below meth c H locs cells slots Q lsM hx hb hml hown hnm hts hE hK hR hloc hl h8 h9 h10 h11 hret)
      · cases hex
    · -- a call
      rename_i q hex
      split at he
      · rename_i hroom
        split at he
        · cases he
        · rename_i rr hcal
          obtain ⟨r1, h1'⟩ := rr
          dsimp only at he
          obtain ⟨mono, cont⟩ := ih d i (pc + 3) lsA (r1.toList ++ q.2.2) h1' r hF he
          obtain ⟨mono2, -⟩ := ih _ _ _ _ _ _ _ _ hcal
          have hmet := fun hpl => rf_met ih hcal hroom.2.2 hpl
          unfold rf_ex at hex
          split at hex
          · obtain ⟨x, h1, h2⟩ := Option.map_eq_some_iff.mp hex; cases h2
          · obtain ⟨x, h1, h2⟩ := Option.map_eq_some_iff.mp hex; cases h2
          · obtain ⟨x, h1, h2⟩ := Option.map_eq_some_iff.mp hex; cases h2
          · obtain ⟨x, h1, h2⟩ := Option.map_eq_some_iff.mp hex; cases h2
          · obtain ⟨x, h1, h2⟩ := Option.map_eq_some_iff.mp hex; cases h2
          · rename_i hk
            rw [hk] at hw
            split at hex
            · obtain ⟨x, h1, h2⟩ := Option.map_eq_some_iff.mp hex; cases h2
            · rename_i h10k
              rw [if_neg h10k] at hw
              obtain ⟨x, h1, h2⟩ := Option.map_eq_some_iff.mp hex
              have h2 := Sum.inl.inj (Sum.inr.inj h2)
              subst h2
              refine ⟨⟨Nat.le_trans mono2.1 mono.1, Nat.le_trans mono2.2 mono.2⟩, fun p e R s m args below meth c H locs cells slots Q lsM hx hb hml hown hnm hts hE hK hR hloc hl h8 h9 h10 h11 hret => ?_⟩
              have hd := hdl (by rw [hk]; decide)
              have hl3 : rf_len I.1 = 3 := by
                revert hk
                cases I.1 <;> first | (intro hk; rfl) | (intro hk; simp [rf_kd] at hk)
              rw [hl3] at hd
              have e1 : cells + (h1'.2.2.1 - h.2.2.1) + (hF.2.2.1 - h1'.2.2.1) = cells + (hF.2.2.1 - h.2.2.1) := by have := mono.1; have := mono2.1; omega
              have e2 : slots + (h1'.2.2.2 - h.2.2.2) + (hF.2.2.2 - h1'.2.2.2) = slots + (hF.2.2.2 - h.2.2.2) := by have := mono.2; have := mono2.2; omega
              refine rf_ca_ok hx hb hml hl.1 hown hts hgood hspk hE hK hR hloc h1 hw hd rfl rfl hmet (by show d.1 - 1 + 1 ≤ _; omega) (by show 8 + (_ + 11) + (d.2 - _) ≤ _; omega) ⟨by show cells + (h1'.2.2.1 - h.2.2.1) ≤ _; omega, by show slots + (h1'.2.2.2 - h.2.2.2) ≤ _; omega⟩ (fun H' locs' hR' hloc' => ?_)
              refine cont p e R s m args below meth c H' locs' _ _ Q lsM hx hb hml hown hnm hts hE hK hR' hloc' hl h8 h9 (by rw [e1]; exact h10) (by rw [e2]; exact h11) ?_
              rw [e1, e2]
              exact hret
          · obtain ⟨x, h1, h2⟩ := Option.map_eq_some_iff.mp hex; cases h2
          · obtain ⟨x, h1, h2⟩ := Option.map_eq_some_iff.mp hex; cases h2
          · cases hex
      · cases he
    · -- the end
      rename_i v hex
      cases he
      unfold rf_ex at hex
      split at hex
      · obtain ⟨x, h1, h2⟩ := Option.map_eq_some_iff.mp hex; cases h2
      · obtain ⟨x, h1, h2⟩ := Option.map_eq_some_iff.mp hex; cases h2
      · obtain ⟨x, h1, h2⟩ := Option.map_eq_some_iff.mp hex; cases h2
      · obtain ⟨x, h1, h2⟩ := Option.map_eq_some_iff.mp hex; cases h2
      · obtain ⟨x, h1, h2⟩ := Option.map_eq_some_iff.mp hex; cases h2
      · split at hex
        · obtain ⟨x, h1, h2⟩ := Option.map_eq_some_iff.mp hex; cases h2
        · obtain ⟨x, h1, h2⟩ := Option.map_eq_some_iff.mp hex; cases h2
      · rename_i hk
        obtain ⟨x, h1, h2⟩ := Option.map_eq_some_iff.mp hex
        have h2 := Sum.inr.inj (Sum.inr.inj h2)
        subst h2
        refine ⟨⟨Nat.le_refl _, Nat.le_refl _⟩, fun p e R s m args below meth c H locs cells slots Q lsM hx hb hml hown hnm hts hE hK hR hloc hl h8 h9 h10 h11 hret => ?_⟩
        have hd := hdl (by rw [hk]; decide)
        rw [rf_l6 hk] at hd
        have h12 := hret pc I.1 H locs lsM st hd h1 hR hloc
        simp only [Nat.sub_self, Nat.add_zero] at h12
        exact h12
      · obtain ⟨x, h1, h2⟩ := Option.map_eq_some_iff.mp hex; cases h2
      · cases hex
end
section
/-! RUNS OF THE EVALUATOR: more fuel and more room do no harm; a run to an end with Q -/
theorem rf_ev_mono (cx : rf_C) : ∀ (n : Nat) (d : Nat × Nat) (i pc : Nat) (ls : rf_L) (st : List Value) (h : rf_H) (x : Option Value × rf_H), rf_ev cx n d i pc ls st h = some x → ∀ m, n ≤ m → rf_ev cx m d i pc ls st h = some x := by
  intro n
  induction n with
  | zero =>
    intro d i pc ls st h x he
    unfold rf_ev at he
    cases he
  | succ n ih =>
    intro d i pc ls st h x he m hm
    obtain ⟨k, rfl⟩ : ∃ k, m = k + 1 := ⟨m - 1, by omega⟩
    have hk : n ≤ k := by omega
    unfold rf_ev at he ⊢
    cases hf : cx.1 i pc with
    | none => rw [hf] at he; cases he
    | some I =>
      rw [hf] at he
      dsimp only at he ⊢
      cases hx : rf_ex cx d i pc I ls st h with
      | none => rw [hx] at he; cases he
      | some o =>
        rw [hx] at he
        rcases o with q | q | v
        · exact ih _ _ _ _ _ _ _ he k hk
        · dsimp only at he ⊢
          split at he
          · rename_i hc
            rw [if_pos hc]
            cases hcal : rf_ev cx n (d.1 - 1, d.2 - ((cx.2.1 q.1).2.2.1 + 19)) q.1 0 (lv_args 0 q.2.1) [] h with
            | none => rw [hcal] at he; cases he
            | some r =>
              rw [hcal] at he
              rw [ih _ _ _ _ _ _ _ hcal k hk]
              exact ih _ _ _ _ _ _ _ he k hk
          · cases he
        · exact he
theorem rf_ok8_room {r : List Value} {d d' : Nat × Nat} {w : Nat} (h1 : d.1 ≤ d'.1) (h2 : d.2 ≤ d'.2) (h : rf_ok8 r d w = true) : rf_ok8 r d' w = true := by
  unfold rf_ok8 at h ⊢
  simp only [Bool.and_eq_true, decide_eq_true_eq] at h ⊢
  omega
theorem rf_bi_room {cx : rf_C} {kd : Int} {d d' : Nat × Nat} {st : List Value} {h : rf_H} {q : List Value × rf_H} (h1 : d.1 ≤ d'.1) (h2 : d.2 ≤ d'.2) (he : rf_bi cx kd d st h = some q) : rf_bi cx kd d' st h = some q := by
  unfold rf_bi at he ⊢
  split at he
  · rename_i hk
    rw [if_pos hk]
    split at he
    · split at he
      · rename_i h8
        rw [if_pos (rf_ok8_room h1 h2 h8)]
        exact he
      · cases he
    · cases he
  · rename_i hk
    rw [if_neg hk]
    split at he
    · rename_i hk
      rw [if_pos hk]
      split at he
      · split at he
        · rename_i h8
          rw [if_pos ⟨rf_ok8_room h1 h2 h8.1, h8.2⟩]
          exact he
        · cases he
      · cases he
    · rename_i hk
      rw [if_neg hk]
      split at he
      · rename_i hk
        rw [if_pos hk]
        split at he
        · split at he
          · rename_i h8
            rw [if_pos (rf_ok8_room h1 h2 h8)]
            exact he
          · cases he
        · cases he
      · rename_i hk
        rw [if_neg hk]
        split at he
        · rename_i hk
          rw [if_pos hk]
          split at he
          · split at he
            · rename_i h8
              rw [if_pos (rf_ok8_room h1 h2 h8)]
              exact he
            · cases he
          · cases he
        · cases he
theorem rf_ex_room {cx : rf_C} {d d' : Nat × Nat} {i pc : Nat} {I : rf_I} {ls : rf_L} {st : List Value} {h : rf_H} {o : rf_O} (h1 : d.1 ≤ d'.1) (h2 : d.2 ≤ d'.2) (he : rf_ex cx d i pc I ls st h = some o) : rf_ex cx d' i pc I ls st h = some o := by
  unfold rf_ex at he ⊢
  split at he
  all_goals first
    | exact he
    | skip
  split at he
  · rename_i hk
    rw [if_pos hk]
    obtain ⟨x, q1, q2⟩ := Option.map_eq_some_iff.mp he
    rw [rf_bi_room h1 h2 q1, Option.map_some, q2]
  · rename_i hk
    rw [if_neg hk]
    exact he
theorem rf_ev_room (cx : rf_C) : ∀ (n : Nat) (d d' : Nat × Nat) (i pc : Nat) (ls : rf_L) (st : List Value) (h : rf_H) (x : Option Value × rf_H), d.1 ≤ d'.1 → d.2 ≤ d'.2 → rf_ev cx n d i pc ls st h = some x → rf_ev cx n d' i pc ls st h = some x := by
  intro n
  induction n with
  | zero =>
    intro d d' i pc ls st h x h1 h2 he
    unfold rf_ev at he
    cases he
  | succ n ih =>
    intro d d' i pc ls st h x h1 h2 he
    unfold rf_ev at he ⊢
    cases hf : cx.1 i pc with
    | none => rw [hf] at he; cases he
    | some I =>
      rw [hf] at he
      dsimp only at he ⊢
      cases hx : rf_ex cx d i pc I ls st h with
      | none => rw [hx] at he; cases he
      | some o =>
        rw [hx] at he
        rw [rf_ex_room h1 h2 hx]
        rcases o with q | q | v
        · exact ih _ _ _ _ _ _ _ _ h1 h2 he
        · dsimp only at he ⊢
          split at he
          · rename_i hc
            rw [if_pos (show 1 ≤ d'.1 ∧ (cx.2.1 q.1).2.2.1 + 19 ≤ d'.2 ∧ (lg_sl q.2.1).length ≤ (cx.2.1 q.1).2.2.1 from ⟨by omega, by omega, hc.2.2⟩)]
            cases hcal : rf_ev cx n (d.1 - 1, d.2 - ((cx.2.1 q.1).2.2.1 + 19)) q.1 0 (lv_args 0 q.2.1) [] h with
            | none => rw [hcal] at he; cases he
            | some r =>
              rw [hcal] at he
              rw [ih _ (d'.1 - 1, d'.2 - ((cx.2.1 q.1).2.2.1 + 19)) _ _ _ _ _ _ (by dsimp only; omega) (by dsimp only; omega) hcal]
              exact ih _ _ _ _ _ _ _ _ h1 h2 he
          · cases he
        · exact he
/-- the run ends, and its end has Q -/
def gx (cx : rf_C) (d : Nat × Nat) (i pc : Nat) (ls : rf_L) (st : List Value) (h : rf_H) (Q : Option Value → rf_H → Prop) : Prop := ∃ (n : Nat) (r : Option Value) (hF : rf_H), rf_ev cx n d i pc ls st h = some (r, hF) ∧ Q r hF
section GX
variable {cx : rf_C} {d : Nat × Nat} {i pc : Nat} {ls : rf_L} {st : List Value} {h : rf_H} {Q : Option Value → rf_H → Prop}
theorem gx_step {I : rf_I} {pc' : Nat} {ls' : rf_L} {st' : List Value} {h' : rf_H} (hf : cx.1 i pc = some I) (he : rf_ex cx d i pc I ls st h = some (.inl (pc', ls', st', h'))) (k : gx cx d i pc' ls' st' h' Q) : gx cx d i pc ls st h Q := by
  obtain ⟨n, r, hF, h1, h2⟩ := k
  refine ⟨n + 1, r, hF, ?_, h2⟩
  unfold rf_ev
  rw [hf]
  dsimp only
  rw [he]
  exact h1
theorem gx_call {I : rf_I} {j : Nat} {as rest : List Value} (hf : cx.1 i pc = some I) (he : rf_ex cx d i pc I ls st h = some (.inr (.inl (j, as, rest)))) (hroom : 1 ≤ d.1 ∧ (cx.2.1 j).2.2.1 + 19 ≤ d.2 ∧ (lg_sl as).length ≤ (cx.2.1 j).2.2.1) (k : gx cx (d.1 - 1, d.2 - ((cx.2.1 j).2.2.1 + 19)) j 0 (lv_args 0 as) [] h (fun r h' => gx cx d i (pc + 3) ls (r.toList ++ rest) h' Q)) : gx cx d i pc ls st h Q := by
  obtain ⟨n, r, h', h1, m, r2, hF, h3, h4⟩ := k
  refine ⟨max n m + 1, r2, hF, ?_, h4⟩
  unfold rf_ev
  rw [hf]
  dsimp only
  rw [he]
  dsimp only
  rw [if_pos hroom, rf_ev_mono _ _ _ _ _ _ _ _ _ h1 _ (Nat.le_max_left n m)]
  exact rf_ev_mono _ _ _ _ _ _ _ _ _ h3 _ (Nat.le_max_right n m)
theorem gx_ret {I : rf_I} {v : Option Value} (hf : cx.1 i pc = some I) (he : rf_ex cx d i pc I ls st h = some (.inr (.inr v))) (hq : Q v h) : gx cx d i pc ls st h Q := by
  refine ⟨1, v, h, ?_, hq⟩
  unfold rf_ev
  rw [hf]
  dsimp only
  rw [he]
theorem gx_mono {Q' : Option Value → rf_H → Prop} (k : gx cx d i pc ls st h Q) (hq : ∀ r h', Q r h' → Q' r h') : gx cx d i pc ls st h Q' := by
  obtain ⟨n, r, hF, h1, h2⟩ := k
  exact ⟨n, r, hF, h1, hq _ _ h2⟩
theorem gx_room {d' : Nat × Nat} (k : gx cx d i pc ls st h Q) (h1 : d.1 ≤ d'.1) (h2 : d.2 ≤ d'.2) : gx cx d' i pc ls st h Q := by
  obtain ⟨n, r, hF, h3, h4⟩ := k
  exact ⟨n, r, hF, rf_ev_room _ _ _ _ _ _ _ _ _ _ h1 h2 h3, h4⟩
end GX
end
section
/-! TABLES OF CODE, CHECKED BY A PROGRAM -/
/-- what an instruction's link must be -/
def rf_wk (cx : rf_C) (ocl : List vw_C) (tb sp : List Cond) (str : List (String × Nat × String × Nat)) (stt : List (String × String × String × Value)) (own nm : String) (I : rf_I) : Prop := match rf_kd I.1 with
  | 4 => rf_wlk cx ocl tb sp own nm I.1 I.2
  | 5 => if 10 ≤ (I.2.headD (0, 0)).1 then ∃ idx : Nat, (((I.2.headD (0, 0)).1 = 10 ∧ I.1 = .invokespecial idx) ∨ ((I.2.headD (0, 0)).1 ≠ 10 ∧ I.1 = .invokestatic idx)) ∧ rf_wi8 tb own idx (I.2.headD (0, 0)).1 else rf_wc cx ocl tb sp own I.1 I.2
  | 7 => rf_wp tb str stt own I.1 I.2
  | _ => True
/-- instructions with a link -/
def rf_nl (I : Instr) : Bool := match I with
  | .getfield _ => true
  | .putfield _ => true
  | .new _ => true
  | .newarray _ => true
  | .anewarray _ => true
  | .invokevirtual _ => true
  | .invokespecial _ => true
  | .invokestatic _ => true
  | .ldc _ => true
  | .ldc2_w _ => true
  | .getstatic _ => true
  | _ => false
def rf_chk (lk : List (Bool × rf_I)) (ini : Bool) (b : ByteArray) (q : Nat × rf_I × Nat) : Bool :=
  (match decode b q.1 with
    | .ok (J, n) => decide (J = q.2.1.1) && (rf_iw q.2.1.1 || n == rf_len q.2.1.1)
    | _ => false) && (!(rf_kd q.2.1.1 == 3) || rf_wb q.2.1.1 q.2.1.2 q.1) && (!rf_nl q.2.1.1 || (match lk[q.2.2]? with
    | some e => decide (e.2 = q.2.1) && (!e.1 || ini)
    | none => false))
/-- a method's entry: its name, bytes, locals, answer; its class; its code (place, instruction, the number of its link in the class's list) -/
abbrev rf_E1 : Type := rf_Mt × Nat × List (Nat × rf_I × Nat)
def rf_mck (nmO : Nat → String) (lk : Nat → List (Bool × rf_I)) (e : rf_E1) : Bool := decide (e.1.1.cls = nmO e.2.1) && e.2.2.all (rf_chk (lk e.2.1) (e.1.1.name == "<init>") e.1.2.1)
def rf_dm : rf_E1 := ((⟨"", "", ""⟩, ⟨#[]⟩, 0, none), 0, [])
def rf_cx (ml : List rf_E1) (ty : Int → Nat → FieldType) (cl : List vw_C) (a0 : Nat) : rf_C := (fun i pc => ((ml.getD i rf_dm).2.2.find? (fun q => q.1 == pc)).map (fun q => q.2.1), fun i => (ml.getD i rf_dm).1, ty, cl, a0)
theorem rf_wk_nl {cx : rf_C} {ocl : List vw_C} {tb sp : List Cond} {str : List (String × Nat × String × Nat)} {stt : List (String × String × String × Value)} {own nm : String} {I : rf_I} (h : rf_nl I.1 = false) : rf_wk cx ocl tb sp str stt own nm I := by
  obtain ⟨I, aux⟩ := I
  cases I <;> first | exact trivial | (simp [rf_nl] at h)
theorem rf_wf_of {ml : List rf_E1} {ty : Int → Nat → FieldType} {cl : List vw_C} {a0 : Nat} {ocl : List vw_C} {tb sp : List Cond} {str : List (String × Nat × String × Nat)} {stt : List (String × String × String × Value)} {nmO : Nat → String} {lk : Nat → List (Bool × rf_I)}
    (hm : ∀ e ∈ ml, rf_mck nmO lk e = true) (hl : ∀ (c : Nat) (e : Bool × rf_I), e ∈ lk c → ∀ nm : String, (e.1 = true → nm = "<init>") → rf_wk (rf_cx ml ty cl a0) ocl tb sp str stt (nmO c) nm e.2) :
    ∀ (i pc : Nat) (I : rf_I), (rf_cx ml ty cl a0).1 i pc = some I → rf_wf (rf_cx ml ty cl a0) ocl tb sp str stt i pc I := by
  intro i pc I h
  have h0 : ((ml.getD i rf_dm).2.2.find? (fun q => q.1 == pc)).map (fun q => q.2.1) = some I := h
  obtain ⟨q, hq, hqI⟩ := Option.map_eq_some_iff.mp h0
  have hmem := List.mem_of_find?_eq_some hq
  have hpc : q.1 = pc := by simpa using List.find?_some hq
  have hi : i < ml.length := by
    rcases Nat.lt_or_ge i ml.length with z | z
    · exact z
    · have h9 : ml.getD i rf_dm = rf_dm := by simp [List.getD_eq_getElem?_getD, List.getElem?_eq_none z]
      rw [h9] at hmem
      cases hmem
  have hin : ml.getD i rf_dm ∈ ml := by
    rw [List.getD_eq_getElem?_getD, List.getElem?_eq_getElem hi]
    exact List.getElem_mem hi
  have hck := hm _ hin
  unfold rf_mck at hck
  simp only [Bool.and_eq_true, decide_eq_true_eq, List.all_eq_true] at hck
  obtain ⟨hc1, hc2⟩ := hck
  have hc3 := hc2 q hmem
  unfold rf_chk at hc3
  simp only [Bool.and_eq_true] at hc3
  obtain ⟨⟨c1, c2⟩, c3⟩ := hc3
  rw [hqI, hpc] at c1
  rw [hqI, hpc] at c2
  rw [hqI] at c3
  have hown : (((rf_cx ml ty cl a0).2.1 i).1).cls = nmO (ml.getD i rf_dm).2.1 := hc1
  have hwk : rf_wk (rf_cx ml ty cl a0) ocl tb sp str stt (((rf_cx ml ty cl a0).2.1 i).1).cls (((rf_cx ml ty cl a0).2.1 i).1).name I := by
    rw [hown]
    cases hn : rf_nl I.1 with
    | false => exact rf_wk_nl hn
    | true =>
      rw [hn] at c3
      rw [Bool.not_true, Bool.false_or] at c3
      split at c3
      · rename_i e9 he9
        simp only [Bool.and_eq_true, decide_eq_true_eq, Bool.or_eq_true, Bool.not_eq_true'] at c3
        obtain ⟨z1, z2⟩ := c3
        rw [← z1]
        refine hl _ e9 (List.mem_of_getElem? he9) _ (fun y => ?_)
        rcases z2 with z2 | z2
        · rw [y] at z2; cases z2
        · exact beq_iff_eq.mp z2
      · cases c3
  refine ⟨?_, ?_⟩
  · revert c1
    show (match decode (ml.getD i rf_dm).1.2.1 pc with
    | .ok (J, n) => decide (J = I.1) && (rf_iw I.1 || n == rf_len I.1)
    | _ => false) = true → ∃ len : Nat, decode (ml.getD i rf_dm).1.2.1 pc = .ok (I.1, len) ∧ (rf_iw I.1 = true ∨ len = rf_len I.1)
    intro c1
    split at c1
    · rename_i J n hd
      simp only [Bool.and_eq_true, decide_eq_true_eq, Bool.or_eq_true, beq_iff_eq] at c1
      refine ⟨n, ?_, c1.2⟩
      rw [hd, c1.1]
    · cases c1
  · unfold rf_wk at hwk
    split
    · rename_i hk
      rw [hk] at c2
      simpa using c2
    · rename_i hk
      rw [hk] at hwk
      exact hwk
    · rename_i hk
      rw [hk] at hwk
      exact hwk
    · rename_i hk
      rw [hk] at hwk
      exact hwk
    · trivial
end
section
/-! LINKS, kind by kind -/
theorem rf_mck_cg {nmO : Nat → String} {lk lk' : Nat → List (Bool × rf_I)} {e : rf_E1} (h : lk e.2.1 = lk' e.2.1) (hc : rf_mck nmO lk' e = true) : rf_mck nmO lk e = true := by
  unfold rf_mck at hc ⊢
  rw [h]
  exact hc
section WK
variable {cx : rf_C} {ocl : List vw_C} {tb sp : List Cond} {str : List (String × Nat × String × Nat)} {stt : List (String × String × String × Value)} {own nm : String}
theorem mem1 {α : Type} {a : α} {P : α → Prop} (h : P a) : ∀ q ∈ [a], P q := fun q hq => by rw [List.mem_singleton.mp hq]; exact h
theorem mem2 {α : Type} {a b : α} {P : α → Prop} (h : P a) (h2 : P b) : ∀ q ∈ [a, b], P q := fun q hq => by
  rcases List.mem_cons.mp hq with z | z
  · rw [z]; exact h
  · rw [List.mem_singleton.mp z]; exact h2
theorem wk_gf {idx ci k : Nat} {r : vw_C} (hr : cx.2.2.2.1[ci]? = some r) (hg : rf_wg tb own idx r k) : rf_wk cx ocl tb sp str stt own nm (.getfield idx, [((ci : Int), k)]) :=
  show ∀ q ∈ [((ci : Int), k)], _ from mem1 ⟨fun _ => ⟨r, hr, hg⟩, fun z => absurd z (by simp only; omega)⟩
theorem wk_gf2 {idx ci k ci2 k2 : Nat} {r r2 : vw_C} (hr : cx.2.2.2.1[ci]? = some r) (hg : rf_wg tb own idx r k) (hr2 : cx.2.2.2.1[ci2]? = some r2) (hg2 : rf_wg tb own idx r2 k2) : rf_wk cx ocl tb sp str stt own nm (.getfield idx, [((ci : Int), k), ((ci2 : Int), k2)]) :=
  show ∀ q ∈ [((ci : Int), k), ((ci2 : Int), k2)], _ from mem2 ⟨fun _ => ⟨r, hr, hg⟩, fun z => absurd z (by simp only; omega)⟩ ⟨fun _ => ⟨r2, hr2, hg2⟩, fun z => absurd z (by simp only; omega)⟩
theorem wk_gfo {idx k : Nat} {r : vw_C} (hr : ocl[0]? = some r) (hg : rf_wg tb own idx r k) : rf_wk cx ocl tb sp str stt own nm (.getfield idx, [(-1, k)]) :=
  show ∀ q ∈ [((-1 : Int), k)], _ from mem1 ⟨fun z => absurd z (by simp), fun _ => ⟨r, hr, hg⟩⟩
theorem wk_pf {idx ci k : Nat} {r : vw_C} (hr : cx.2.2.2.1[ci]? = some r) (hg : rf_wg tb own idx r k) (hf : (r.2.1 k).2.2.2 = false) : rf_wk cx ocl tb sp str stt own nm (.putfield idx, [((ci : Int), k)]) :=
  show ∀ q ∈ [((ci : Int), k)], _ from mem1 (fun _ => ⟨r, hr, hg, Or.inl hf⟩)
theorem wk_pff {idx ci k : Nat} {r : vw_C} (hr : cx.2.2.2.1[ci]? = some r) (hg : rf_wg tb own idx r k) (hf : (r.2.1 k).2.2.2 = true) (hn : nm = "<init>") (ho : (r.2.1 k).1 = own) : rf_wk cx ocl tb sp str stt own nm (.putfield idx, [((ci : Int), k)]) :=
  show ∀ q ∈ [((ci : Int), k)], _ from mem1 (fun _ => ⟨r, hr, hg, Or.inr ⟨hf, hn, ho⟩⟩)
theorem wk_new {idx ci : Nat} {r : vw_C} (hr : cx.2.2.2.1[ci]? = some r) (h1 : Cond.classLink own idx r.1 ∈ tb) (h2 : Cond.instantiable r.1 r.2.2 ∈ tb) (h3 : Cond.initialized r.1 ∈ tb) : rf_wk cx ocl tb sp str stt own nm (.new idx, [(0, ci)]) :=
  show ∀ q ∈ [((0 : Int), ci)], _ from mem1 (fun r' hr' => by cases hr.symm.trans hr'; exact ⟨h1, h2, h3⟩)
theorem wk_newa {t : ArrayType} (h : Cond.arrayClass (newarray.typeOf t) ∈ tb) : rf_wk cx ocl tb sp str stt own nm (.newarray t, []) := h
theorem wk_anew {idx ci : Nat} {r : vw_C} (hr : cx.2.2.2.1[ci]? = some r) (h1 : Cond.classLink own idx r.1 ∈ tb) (h2 : Cond.arrayOver (.object r.1) ∈ sp) : rf_wk cx ocl tb sp str stt own nm (.anewarray idx, [(0, ci)]) :=
  show ∀ q ∈ [((0 : Int), ci)], _ from mem1 (fun r' hr' => by cases hr.symm.trans hr'; exact ⟨h1, h2⟩)
theorem mo_of {np j mL : Nat} {y : MethodName} {b : ByteArray} {rt : Option FieldType} (h : cx.2.1 j = (y, b, mL, rt)) (h1 : Cond.code y b mL rt ∈ tb) (h2 : plainName y.cls = true) (h3 : y.cls ≠ "java/lang/invoke/MethodHandle" ∧ y.cls ≠ "java/lang/invoke/VarHandle") (h4 : (parseMethodDescriptor y.desc).map (fun d => d.parameters.length) = some np) (h5 : Cond.initialized y.cls ∈ tb) : rf_mo cx tb np j := by
  unfold rf_mo
  rw [h]
  exact ⟨h1, h2, h3, h4, h5⟩
theorem wk_iv {idx np ci j mL : Nat} {y : MethodName} {b : ByteArray} {rt : Option FieldType} {r : vw_C} (hr : cx.2.2.2.1[ci]? = some r) (h : cx.2.1 j = (y, b, mL, rt)) (hm : rf_mo cx tb np j) (h1 : Cond.instanceMethod y ∈ tb) (h2 : Cond.methodLink own idx y ∈ tb) (h3 : Cond.selects r.1 y y ∈ tb) : rf_wk cx ocl tb sp str stt own nm (.invokevirtual idx, [(0, np), ((ci : Int), j)]) :=
  show ∀ q ∈ [((ci : Int), j)], _ from mem1 ⟨hm, by rw [h]; exact h1, r.1, by unfold rf_nm; rw [if_pos (by simp only; omega)]; simp [hr], Or.inl ⟨by rw [h]; exact h2, by rw [h]; exact h3⟩⟩
theorem wk_ivo {idx np j mL : Nat} {y : MethodName} {b : ByteArray} {rt : Option FieldType} {r : vw_C} (hr : ocl[0]? = some r) (h : cx.2.1 j = (y, b, mL, rt)) (hm : rf_mo cx tb np j) (h1 : Cond.instanceMethod y ∈ tb) (h2 : Cond.methodLink own idx y ∈ tb) (h3 : Cond.selects r.1 y y ∈ tb) : rf_wk cx ocl tb sp str stt own nm (.invokevirtual idx, [(0, np), (-1, j)]) :=
  show ∀ q ∈ [((-1 : Int), j)], _ from mem1 ⟨hm, by rw [h]; exact h1, r.1, by unfold rf_nm; rw [if_neg (by simp)]; simp [hr], Or.inl ⟨by rw [h]; exact h2, by rw [h]; exact h3⟩⟩
/-- an abstract method, two classes that have it -/
theorem wk_iva {idx np ci j mL ci2 j2 mL2 : Nat} {x y y2 : MethodName} {owner : String} {b b2 : ByteArray} {rt rt2 : Option FieldType} {r r2 : vw_C} (hl : Cond.methodLink own idx x ∈ tb) (hs : Cond.sameMethod x.cls owner x.name x.desc ∈ tb) (ho : owner ≠ "java/lang/invoke/MethodHandle" ∧ owner ≠ "java/lang/invoke/VarHandle") (hd : Cond.declares ⟨owner, x.name, x.desc⟩ ∈ sp)
    (hr : cx.2.2.2.1[ci]? = some r) (h : cx.2.1 j = (y, b, mL, rt)) (hm : rf_mo cx tb np j) (h1 : Cond.instanceMethod y ∈ tb) (h3 : Cond.selects r.1 x y ∈ tb) (hdd : x.desc = y.desc)
    (hr2 : cx.2.2.2.1[ci2]? = some r2) (g : cx.2.1 j2 = (y2, b2, mL2, rt2)) (gm : rf_mo cx tb np j2) (g1 : Cond.instanceMethod y2 ∈ tb) (g3 : Cond.selects r2.1 x y2 ∈ tb) (gdd : x.desc = y2.desc) : rf_wk cx ocl tb sp str stt own nm (.invokevirtual idx, [(0, np), ((ci : Int), j), ((ci2 : Int), j2)]) :=
  show ∀ q ∈ [((ci : Int), j), ((ci2 : Int), j2)], _ from mem2 ⟨hm, by rw [h]; exact h1, r.1, by unfold rf_nm; rw [if_pos (by simp only; omega)]; simp [hr], Or.inr (Or.inl ⟨x, owner, hl, hs, ho, hd, by rw [h]; exact h3, by rw [h]; exact hdd⟩)⟩
    ⟨gm, by rw [g]; exact g1, r2.1, by unfold rf_nm; rw [if_pos (by simp only; omega)]; simp [hr2], Or.inr (Or.inl ⟨x, owner, hl, hs, ho, hd, by rw [g]; exact g3, by rw [g]; exact gdd⟩)⟩
theorem wk_is {idx np j mL : Nat} {y : MethodName} {b : ByteArray} (h : cx.2.1 j = (y, b, mL, none)) (hm : rf_mo cx tb np j) (h1 : Cond.instanceMethod y ∈ tb) (hn : y.name = "<init>") (h2 : Cond.methodLink own idx y ∈ tb) : rf_wk cx ocl tb sp str stt own nm (.invokespecial idx, [(0, np), (0, j)]) :=
  show ∀ q ∈ [((0 : Int), j)], _ from mem1 ⟨hm, by rw [h]; exact h1, by rw [h]; exact hn, by rw [h], Or.inl (by rw [h]; exact h2)⟩
theorem wk_isN {idx np j mL : Nat} {y : MethodName} {b : ByteArray} {host : String} (h : cx.2.1 j = (y, b, mL, none)) (hm : rf_mo cx tb np j) (h1 : Cond.instanceMethod y ∈ tb) (hn : y.name = "<init>") (h2 : Cond.methodLinkNest own idx y host ∈ sp) : rf_wk cx ocl tb sp str stt own nm (.invokespecial idx, [(0, np), (0, j)]) :=
  show ∀ q ∈ [((0 : Int), j)], _ from mem1 ⟨hm, by rw [h]; exact h1, by rw [h]; exact hn, by rw [h], Or.inr ⟨host, by rw [h]; exact h2⟩⟩
theorem wk_st {idx np j mL : Nat} {y : MethodName} {b : ByteArray} {rt : Option FieldType} (h : cx.2.1 j = (y, b, mL, rt)) (hm : rf_mo cx tb np j) (h1 : Cond.static y ∈ tb) (h2 : Cond.methodLink own idx y ∈ tb) : rf_wk cx ocl tb sp str stt own nm (.invokestatic idx, [(0, np), (0, j)]) :=
  show ∀ q ∈ [((0 : Int), j)], _ from mem1 ⟨hm, by rw [h]; exact h1, Or.inl (by rw [h]; exact h2)⟩
theorem wk_stN {idx np j mL : Nat} {y : MethodName} {b : ByteArray} {rt : Option FieldType} {host : String} (h : cx.2.1 j = (y, b, mL, rt)) (hm : rf_mo cx tb np j) (h1 : Cond.static y ∈ tb) (h2 : Cond.methodLinkNest own idx y host ∈ sp) : rf_wk cx ocl tb sp str stt own nm (.invokestatic idx, [(0, np), (0, j)]) :=
  show ∀ q ∈ [((0 : Int), j)], _ from mem1 ⟨hm, by rw [h]; exact h1, Or.inr ⟨host, by rw [h]; exact h2⟩⟩
theorem w8_10 {idx : Nat} (h1 : Cond.methodLink own idx objectInit ∈ tb) (h2 : Cond.instanceMethod objectInit ∈ tb) (h3 : Cond.code objectInit ⟨#[0xb1]⟩ 1 none ∈ tb) : rf_wi8 tb own idx 10 := ⟨fun _ => ⟨h1, h2, h3⟩, (fun z => absurd z (by decide)), (fun z => absurd z (by decide)), (fun z => absurd z (by decide))⟩
theorem w8_11 {idx : Nat} (h1 : Cond.methodLink own idx arraycopyName ∈ tb) (h2 : Cond.native arraycopyName ∈ tb) (h3 : Cond.static arraycopyName ∈ tb) (h4 : Cond.initialized "java/lang/System" ∈ tb) : rf_wi8 tb own idx 11 := ⟨(fun z => absurd z (by decide)), fun _ => ⟨h1, h2, h3, h4⟩, (fun z => absurd z (by decide)), (fun z => absurd z (by decide))⟩
theorem w8_12 {idx : Nat} (h1 : Cond.methodLink own idx Lib.Math.min.name ∈ tb) (h2 : Cond.static Lib.Math.min.name ∈ tb) (h3 : Cond.initialized "java/lang/Math" ∈ tb) (h4 : Cond.code Lib.Math.min.name Lib.Math.min.code 2 (some .int) ∈ tb) : rf_wi8 tb own idx 12 := ⟨(fun z => absurd z (by decide)), (fun z => absurd z (by decide)), fun _ => ⟨h1, h2, h3, h4⟩, (fun z => absurd z (by decide))⟩
theorem w8_13 {idx : Nat} (h1 : Cond.methodLink own idx Lib.Math.max.name ∈ tb) (h2 : Cond.static Lib.Math.max.name ∈ tb) (h3 : Cond.initialized "java/lang/Math" ∈ tb) (h4 : Cond.code Lib.Math.max.name Lib.Math.max.code 2 (some .int) ∈ tb) : rf_wi8 tb own idx 13 := ⟨(fun z => absurd z (by decide)), (fun z => absurd z (by decide)), (fun z => absurd z (by decide)), fun _ => ⟨h1, h2, h3, h4⟩⟩
theorem ne1110 : (11 : Int) ≠ 10 := by decide
theorem ne1210 : (12 : Int) ≠ 10 := by decide
theorem ne1310 : (13 : Int) ≠ 10 := by decide
theorem wk_10 {idx : Nat} (h1 : Cond.methodLink own idx objectInit ∈ tb) (h2 : Cond.instanceMethod objectInit ∈ tb) (h3 : Cond.code objectInit ⟨#[0xb1]⟩ 1 none ∈ tb) : rf_wk cx ocl tb sp str stt own nm (.invokespecial idx, [(10, 0)]) :=
  show ∃ idx' : Nat, _ from ⟨idx, Or.inl ⟨rfl, rfl⟩, w8_10 h1 h2 h3⟩
theorem wk_11 {idx : Nat} (h1 : Cond.methodLink own idx arraycopyName ∈ tb) (h2 : Cond.native arraycopyName ∈ tb) (h3 : Cond.static arraycopyName ∈ tb) (h4 : Cond.initialized "java/lang/System" ∈ tb) : rf_wk cx ocl tb sp str stt own nm (.invokestatic idx, [(11, 0)]) :=
  show ∃ idx' : Nat, _ from ⟨idx, Or.inr ⟨ne1110, rfl⟩, w8_11 h1 h2 h3 h4⟩
theorem wk_12 {idx : Nat} (h1 : Cond.methodLink own idx Lib.Math.min.name ∈ tb) (h2 : Cond.static Lib.Math.min.name ∈ tb) (h3 : Cond.initialized "java/lang/Math" ∈ tb) (h4 : Cond.code Lib.Math.min.name Lib.Math.min.code 2 (some .int) ∈ tb) : rf_wk cx ocl tb sp str stt own nm (.invokestatic idx, [(12, 0)]) :=
  show ∃ idx' : Nat, _ from ⟨idx, Or.inr ⟨ne1210, rfl⟩, w8_12 h1 h2 h3 h4⟩
theorem wk_13 {idx : Nat} (h1 : Cond.methodLink own idx Lib.Math.max.name ∈ tb) (h2 : Cond.static Lib.Math.max.name ∈ tb) (h3 : Cond.initialized "java/lang/Math" ∈ tb) (h4 : Cond.code Lib.Math.max.name Lib.Math.max.code 2 (some .int) ∈ tb) : rf_wk cx ocl tb sp str stt own nm (.invokestatic idx, [(13, 0)]) :=
  show ∃ idx' : Nat, _ from ⟨idx, Or.inr ⟨ne1310, rfl⟩, w8_13 h1 h2 h3 h4⟩
theorem wk_l2 {idx k : Nat} (h : Cond.constantLong own idx (Int64.ofNat k) ∈ tb) : rf_wk cx ocl tb sp str stt own nm (.ldc2_w idx, [(1, k)]) := h
theorem wk_li {idx k : Nat} (h : Cond.constant own idx (Int32.ofNat k) ∈ tb) : rf_wk cx ocl tb sp str stt own nm (.ldc idx, [(0, k)]) := h
theorem wk_ls {idx a : Nat} {tx : String} (h : (own, idx, tx, a) ∈ str) : rf_wk cx ocl tb sp str stt own nm (.ldc idx, [(2, a)]) := ⟨tx, h⟩
theorem wk_gi {idx k : Nat} {C n d : String} (h : (C, n, d, Value.int (Int32.ofNat k)) ∈ stt) (h2 : Cond.fieldLink own idx C n d ∈ tb) : rf_wk cx ocl tb sp str stt own nm (.getstatic idx, [(0, k)]) := ⟨C, n, d, h, h2⟩
theorem wk_gr {idx a : Nat} {C n d : String} (h : (C, n, d, Value.ref a) ∈ stt) (h2 : Cond.fieldLink own idx C n d ∈ tb) : rf_wk cx ocl tb sp str stt own nm (.getstatic idx, [(2, a)]) := ⟨C, n, d, h, h2⟩
theorem wk_gn {idx a : Nat} {C n d : String} (h : (C, n, d, Value.null) ∈ stt) (h2 : Cond.fieldLink own idx C n d ∈ tb) : rf_wk cx ocl tb sp str stt own nm (.getstatic idx, [(3, a)]) := ⟨C, n, d, h, h2⟩
end WK
end
section
-- ===== PART A: goes FIRST, ahead of the names: the tables' words, and 'selects' of the private methods out of them =====
/-- a private method of a class that the tables say can be made, by its rows of tables_1 -/
def lw_okq (q : MethodName × Nat) : Prop := (q.1.cls ≠ "java/lang/invoke/MethodHandle" ∧ q.1.cls ≠ "java/lang/invoke/VarHandle") ∧ Cond.instantiable q.1.cls q.2 ∈ tables_1 ∧ Cond.privateMethod q.1 ∈ tables_1 ∧ Cond.instanceMethod q.1 ∈ tables_1
theorem lw_p0 : lw_okq (⟨"MemoryTransactions", "feedNumber", "(I)V"⟩, 10) := ⟨⟨by decide +kernel, by decide +kernel⟩, List.mem_of_getElem? (i := 22) (by decide +kernel), List.mem_of_getElem? (i := 451) (by decide +kernel), List.mem_of_getElem? (i := 452) (by decide +kernel)⟩
theorem lw_p1 : lw_okq (⟨"MemoryTransactions$Scanner", "readToken", "()V"⟩, 7) := ⟨⟨by decide +kernel, by decide +kernel⟩, List.mem_of_getElem? (i := 114) (by decide +kernel), List.mem_of_getElem? (i := 478) (by decide +kernel), List.mem_of_getElem? (i := 479) (by decide +kernel)⟩
theorem lw_p2 : lw_okq (⟨"MemoryTransactions$Scanner", "readLetters", "()V"⟩, 7) := ⟨⟨by decide +kernel, by decide +kernel⟩, List.mem_of_getElem? (i := 114) (by decide +kernel), List.mem_of_getElem? (i := 485) (by decide +kernel), List.mem_of_getElem? (i := 486) (by decide +kernel)⟩
theorem lw_p3 : lw_okq (⟨"MemoryTransactions$Scanner", "knownWord", "(I)I"⟩, 7) := ⟨⟨by decide +kernel, by decide +kernel⟩, List.mem_of_getElem? (i := 114) (by decide +kernel), List.mem_of_getElem? (i := 489) (by decide +kernel), List.mem_of_getElem? (i := 490) (by decide +kernel)⟩
theorem lw_p4 : lw_okq (⟨"MemoryTransactions$Scanner", "reads", "(ILjava/lang/String;)Z"⟩, 7) := ⟨⟨by decide +kernel, by decide +kernel⟩, List.mem_of_getElem? (i := 114) (by decide +kernel), List.mem_of_getElem? (i := 494) (by decide +kernel), List.mem_of_getElem? (i := 495) (by decide +kernel)⟩
theorem lw_p5 : lw_okq (⟨"MemoryTransactions$Scanner", "readDigits", "()V"⟩, 7) := ⟨⟨by decide +kernel, by decide +kernel⟩, List.mem_of_getElem? (i := 114) (by decide +kernel), List.mem_of_getElem? (i := 558) (by decide +kernel), List.mem_of_getElem? (i := 559) (by decide +kernel)⟩
theorem lw_p6 : lw_okq (⟨"MemoryTransactions$Parser", "statements", "(III)I"⟩, 5) := ⟨⟨by decide +kernel, by decide +kernel⟩, List.mem_of_getElem? (i := 108) (by decide +kernel), List.mem_of_getElem? (i := 565) (by decide +kernel), List.mem_of_getElem? (i := 566) (by decide +kernel)⟩
theorem lw_p7 : lw_okq (⟨"MemoryTransactions$Parser", "isFaulty", "()Z"⟩, 5) := ⟨⟨by decide +kernel, by decide +kernel⟩, List.mem_of_getElem? (i := 108) (by decide +kernel), List.mem_of_getElem? (i := 569) (by decide +kernel), List.mem_of_getElem? (i := 570) (by decide +kernel)⟩
theorem lw_p8 : lw_okq (⟨"MemoryTransactions$Parser", "isAt", "(I)Z"⟩, 5) := ⟨⟨by decide +kernel, by decide +kernel⟩, List.mem_of_getElem? (i := 108) (by decide +kernel), List.mem_of_getElem? (i := 573) (by decide +kernel), List.mem_of_getElem? (i := 574) (by decide +kernel)⟩
theorem lw_p9 : lw_okq (⟨"MemoryTransactions$Parser", "statement", "(III)I"⟩, 5) := ⟨⟨by decide +kernel, by decide +kernel⟩, List.mem_of_getElem? (i := 108) (by decide +kernel), List.mem_of_getElem? (i := 577) (by decide +kernel), List.mem_of_getElem? (i := 578) (by decide +kernel)⟩
theorem lw_p10 : lw_okq (⟨"MemoryTransactions$Parser", "token", "()I"⟩, 5) := ⟨⟨by decide +kernel, by decide +kernel⟩, List.mem_of_getElem? (i := 108) (by decide +kernel), List.mem_of_getElem? (i := 581) (by decide +kernel), List.mem_of_getElem? (i := 582) (by decide +kernel)⟩
theorem lw_p11 : lw_okq (⟨"MemoryTransactions$Parser", "refuse", "()V"⟩, 5) := ⟨⟨by decide +kernel, by decide +kernel⟩, List.mem_of_getElem? (i := 108) (by decide +kernel), List.mem_of_getElem? (i := 592) (by decide +kernel), List.mem_of_getElem? (i := 593) (by decide +kernel)⟩
theorem lw_p12 : lw_okq (⟨"MemoryTransactions$Parser", "number", "()I"⟩, 5) := ⟨⟨by decide +kernel, by decide +kernel⟩, List.mem_of_getElem? (i := 108) (by decide +kernel), List.mem_of_getElem? (i := 596) (by decide +kernel), List.mem_of_getElem? (i := 597) (by decide +kernel)⟩
theorem lw_p13 : lw_okq (⟨"MemoryTransactions$Parser", "advance", "()V"⟩, 5) := ⟨⟨by decide +kernel, by decide +kernel⟩, List.mem_of_getElem? (i := 108) (by decide +kernel), List.mem_of_getElem? (i := 600) (by decide +kernel), List.mem_of_getElem? (i := 601) (by decide +kernel)⟩
theorem lw_p14 : lw_okq (⟨"MemoryTransactions$Parser", "expect", "(I)V"⟩, 5) := ⟨⟨by decide +kernel, by decide +kernel⟩, List.mem_of_getElem? (i := 108) (by decide +kernel), List.mem_of_getElem? (i := 604) (by decide +kernel), List.mem_of_getElem? (i := 605) (by decide +kernel)⟩
theorem lw_p15 : lw_okq (⟨"MemoryTransactions$Parser", "closedExp", "()V"⟩, 5) := ⟨⟨by decide +kernel, by decide +kernel⟩, List.mem_of_getElem? (i := 108) (by decide +kernel), List.mem_of_getElem? (i := 608) (by decide +kernel), List.mem_of_getElem? (i := 609) (by decide +kernel)⟩
def lw_privs_1 : List (MethodName × Nat) := [(⟨"MemoryTransactions", "feedNumber", "(I)V"⟩, 10), (⟨"MemoryTransactions$Scanner", "readToken", "()V"⟩, 7), (⟨"MemoryTransactions$Scanner", "readLetters", "()V"⟩, 7), (⟨"MemoryTransactions$Scanner", "knownWord", "(I)I"⟩, 7), (⟨"MemoryTransactions$Scanner", "reads", "(ILjava/lang/String;)Z"⟩, 7), (⟨"MemoryTransactions$Scanner", "readDigits", "()V"⟩, 7), (⟨"MemoryTransactions$Parser", "statements", "(III)I"⟩, 5), (⟨"MemoryTransactions$Parser", "isFaulty", "()Z"⟩, 5), (⟨"MemoryTransactions$Parser", "isAt", "(I)Z"⟩, 5), (⟨"MemoryTransactions$Parser", "statement", "(III)I"⟩, 5), (⟨"MemoryTransactions$Parser", "token", "()I"⟩, 5), (⟨"MemoryTransactions$Parser", "refuse", "()V"⟩, 5), (⟨"MemoryTransactions$Parser", "number", "()I"⟩, 5), (⟨"MemoryTransactions$Parser", "advance", "()V"⟩, 5), (⟨"MemoryTransactions$Parser", "expect", "(I)V"⟩, 5), (⟨"MemoryTransactions$Parser", "closedExp", "()V"⟩, 5)]
theorem lw_r1 : ∀ q ∈ lw_privs_1, lw_okq q := List.forall_mem_cons.mpr ⟨lw_p0, List.forall_mem_cons.mpr ⟨lw_p1, List.forall_mem_cons.mpr ⟨lw_p2, List.forall_mem_cons.mpr ⟨lw_p3, List.forall_mem_cons.mpr ⟨lw_p4, List.forall_mem_cons.mpr ⟨lw_p5, List.forall_mem_cons.mpr ⟨lw_p6, List.forall_mem_cons.mpr ⟨lw_p7, List.forall_mem_cons.mpr ⟨lw_p8, List.forall_mem_cons.mpr ⟨lw_p9, List.forall_mem_cons.mpr ⟨lw_p10, List.forall_mem_cons.mpr ⟨lw_p11, List.forall_mem_cons.mpr ⟨lw_p12, List.forall_mem_cons.mpr ⟨lw_p13, List.forall_mem_cons.mpr ⟨lw_p14, List.forall_mem_cons.mpr ⟨lw_p15, fun _ h => absurd h List.not_mem_nil⟩⟩⟩⟩⟩⟩⟩⟩⟩⟩⟩⟩⟩⟩⟩⟩
theorem lw_p16 : lw_okq (⟨"MemoryTransactions$Parser", "exp", "(I)V"⟩, 5) := ⟨⟨by decide +kernel, by decide +kernel⟩, List.mem_of_getElem? (i := 108) (by decide +kernel), List.mem_of_getElem? (i := 612) (by decide +kernel), List.mem_of_getElem? (i := 613) (by decide +kernel)⟩
theorem lw_p17 : lw_okq (⟨"MemoryTransactions$Parser", "sum", "(I)V"⟩, 5) := ⟨⟨by decide +kernel, by decide +kernel⟩, List.mem_of_getElem? (i := 108) (by decide +kernel), List.mem_of_getElem? (i := 616) (by decide +kernel), List.mem_of_getElem? (i := 617) (by decide +kernel)⟩
theorem lw_p18 : lw_okq (⟨"MemoryTransactions$Parser", "product", "(I)V"⟩, 5) := ⟨⟨by decide +kernel, by decide +kernel⟩, List.mem_of_getElem? (i := 108) (by decide +kernel), List.mem_of_getElem? (i := 620) (by decide +kernel), List.mem_of_getElem? (i := 621) (by decide +kernel)⟩
theorem lw_p19 : lw_okq (⟨"MemoryTransactions$Parser", "unary", "(I)V"⟩, 5) := ⟨⟨by decide +kernel, by decide +kernel⟩, List.mem_of_getElem? (i := 108) (by decide +kernel), List.mem_of_getElem? (i := 624) (by decide +kernel), List.mem_of_getElem? (i := 625) (by decide +kernel)⟩
theorem lw_p20 : lw_okq (⟨"MemoryTransactions$Parser", "compound", "(III)V"⟩, 5) := ⟨⟨by decide +kernel, by decide +kernel⟩, List.mem_of_getElem? (i := 108) (by decide +kernel), List.mem_of_getElem? (i := 635) (by decide +kernel), List.mem_of_getElem? (i := 636) (by decide +kernel)⟩
theorem lw_p21 : lw_okq (⟨"MemoryTransactions$Parser", "body", "(III)I"⟩, 5) := ⟨⟨by decide +kernel, by decide +kernel⟩, List.mem_of_getElem? (i := 108) (by decide +kernel), List.mem_of_getElem? (i := 639) (by decide +kernel), List.mem_of_getElem? (i := 640) (by decide +kernel)⟩
theorem lw_p22 : lw_okq (⟨"MemoryTransactions$Parser", "local", "()I"⟩, 5) := ⟨⟨by decide +kernel, by decide +kernel⟩, List.mem_of_getElem? (i := 108) (by decide +kernel), List.mem_of_getElem? (i := 646) (by decide +kernel), List.mem_of_getElem? (i := 647) (by decide +kernel)⟩
theorem lw_p23 : lw_okq (⟨"MemoryTransactions", "isTransaction", "(I)Z"⟩, 10) := ⟨⟨by decide +kernel, by decide +kernel⟩, List.mem_of_getElem? (i := 22) (by decide +kernel), List.mem_of_getElem? (i := 659) (by decide +kernel), List.mem_of_getElem? (i := 660) (by decide +kernel)⟩
theorem lw_p24 : lw_okq (⟨"MemoryTransactions$Store", "holdAhead", "()Z"⟩, 8) := ⟨⟨by decide +kernel, by decide +kernel⟩, List.mem_of_getElem? (i := 164) (by decide +kernel), List.mem_of_getElem? (i := 680) (by decide +kernel), List.mem_of_getElem? (i := 681) (by decide +kernel)⟩
theorem lw_p25 : lw_okq (⟨"MemoryTransactions$Store", "holdsAhead", "(LMemoryTransactions$Program;I)Z"⟩, 8) := ⟨⟨by decide +kernel, by decide +kernel⟩, List.mem_of_getElem? (i := 164) (by decide +kernel), List.mem_of_getElem? (i := 684) (by decide +kernel), List.mem_of_getElem? (i := 685) (by decide +kernel)⟩
theorem lw_p26 : lw_okq (⟨"MemoryTransactions$Calculator", "push", "(J)V"⟩, 2) := ⟨⟨by decide +kernel, by decide +kernel⟩, List.mem_of_getElem? (i := 174) (by decide +kernel), List.mem_of_getElem? (i := 696) (by decide +kernel), List.mem_of_getElem? (i := 697) (by decide +kernel)⟩
theorem lw_p27 : lw_okq (⟨"MemoryTransactions$Run", "hasRead", "(I)Z"⟩, 11) := ⟨⟨by decide +kernel, by decide +kernel⟩, List.mem_of_getElem? (i := 229) (by decide +kernel), List.mem_of_getElem? (i := 711) (by decide +kernel), List.mem_of_getElem? (i := 712) (by decide +kernel)⟩
theorem lw_p28 : lw_okq (⟨"MemoryTransactions$Calculator", "pop", "()J"⟩, 2) := ⟨⟨by decide +kernel, by decide +kernel⟩, List.mem_of_getElem? (i := 174) (by decide +kernel), List.mem_of_getElem? (i := 730) (by decide +kernel), List.mem_of_getElem? (i := 731) (by decide +kernel)⟩
theorem lw_p29 : lw_okq (⟨"MemoryTransactions", "isClient", "(I)Z"⟩, 10) := ⟨⟨by decide +kernel, by decide +kernel⟩, List.mem_of_getElem? (i := 22) (by decide +kernel), List.mem_of_getElem? (i := 762) (by decide +kernel), List.mem_of_getElem? (i := 763) (by decide +kernel)⟩
theorem lw_p30 : lw_okq (⟨"MemoryTransactions", "takeTurn", "(I)I"⟩, 10) := ⟨⟨by decide +kernel, by decide +kernel⟩, List.mem_of_getElem? (i := 22) (by decide +kernel), List.mem_of_getElem? (i := 774) (by decide +kernel), List.mem_of_getElem? (i := 775) (by decide +kernel)⟩
theorem lw_p31 : lw_okq (⟨"MemoryTransactions$Run", "retry", "()I"⟩, 11) := ⟨⟨by decide +kernel, by decide +kernel⟩, List.mem_of_getElem? (i := 229) (by decide +kernel), List.mem_of_getElem? (i := 819) (by decide +kernel), List.mem_of_getElem? (i := 820) (by decide +kernel)⟩
def lw_privs_2 : List (MethodName × Nat) := [(⟨"MemoryTransactions$Parser", "exp", "(I)V"⟩, 5), (⟨"MemoryTransactions$Parser", "sum", "(I)V"⟩, 5), (⟨"MemoryTransactions$Parser", "product", "(I)V"⟩, 5), (⟨"MemoryTransactions$Parser", "unary", "(I)V"⟩, 5), (⟨"MemoryTransactions$Parser", "compound", "(III)V"⟩, 5), (⟨"MemoryTransactions$Parser", "body", "(III)I"⟩, 5), (⟨"MemoryTransactions$Parser", "local", "()I"⟩, 5), (⟨"MemoryTransactions", "isTransaction", "(I)Z"⟩, 10), (⟨"MemoryTransactions$Store", "holdAhead", "()Z"⟩, 8), (⟨"MemoryTransactions$Store", "holdsAhead", "(LMemoryTransactions$Program;I)Z"⟩, 8), (⟨"MemoryTransactions$Calculator", "push", "(J)V"⟩, 2), (⟨"MemoryTransactions$Run", "hasRead", "(I)Z"⟩, 11), (⟨"MemoryTransactions$Calculator", "pop", "()J"⟩, 2), (⟨"MemoryTransactions", "isClient", "(I)Z"⟩, 10), (⟨"MemoryTransactions", "takeTurn", "(I)I"⟩, 10), (⟨"MemoryTransactions$Run", "retry", "()I"⟩, 11)]
theorem lw_r2 : ∀ q ∈ lw_privs_2, lw_okq q := List.forall_mem_cons.mpr ⟨lw_p16, List.forall_mem_cons.mpr ⟨lw_p17, List.forall_mem_cons.mpr ⟨lw_p18, List.forall_mem_cons.mpr ⟨lw_p19, List.forall_mem_cons.mpr ⟨lw_p20, List.forall_mem_cons.mpr ⟨lw_p21, List.forall_mem_cons.mpr ⟨lw_p22, List.forall_mem_cons.mpr ⟨lw_p23, List.forall_mem_cons.mpr ⟨lw_p24, List.forall_mem_cons.mpr ⟨lw_p25, List.forall_mem_cons.mpr ⟨lw_p26, List.forall_mem_cons.mpr ⟨lw_p27, List.forall_mem_cons.mpr ⟨lw_p28, List.forall_mem_cons.mpr ⟨lw_p29, List.forall_mem_cons.mpr ⟨lw_p30, List.forall_mem_cons.mpr ⟨lw_p31, fun _ h => absurd h List.not_mem_nil⟩⟩⟩⟩⟩⟩⟩⟩⟩⟩⟩⟩⟩⟩⟩⟩
theorem lw_p32 : lw_okq (⟨"MemoryTransactions$Run", "walkExp", "()I"⟩, 11) := ⟨⟨by decide +kernel, by decide +kernel⟩, List.mem_of_getElem? (i := 229) (by decide +kernel), List.mem_of_getElem? (i := 831) (by decide +kernel), List.mem_of_getElem? (i := 832) (by decide +kernel)⟩
theorem lw_p33 : lw_okq (⟨"MemoryTransactions$Run", "toss", "(J)I"⟩, 11) := ⟨⟨by decide +kernel, by decide +kernel⟩, List.mem_of_getElem? (i := 229) (by decide +kernel), List.mem_of_getElem? (i := 837) (by decide +kernel), List.mem_of_getElem? (i := 838) (by decide +kernel)⟩
theorem lw_p34 : lw_okq (⟨"MemoryTransactions", "isHeld", "(I)Z"⟩, 10) := ⟨⟨by decide +kernel, by decide +kernel⟩, List.mem_of_getElem? (i := 22) (by decide +kernel), List.mem_of_getElem? (i := 857) (by decide +kernel), List.mem_of_getElem? (i := 858) (by decide +kernel)⟩
theorem lw_p35 : lw_okq (⟨"MemoryTransactions", "closeRun", "(II)I"⟩, 10) := ⟨⟨by decide +kernel, by decide +kernel⟩, List.mem_of_getElem? (i := 22) (by decide +kernel), List.mem_of_getElem? (i := 861) (by decide +kernel), List.mem_of_getElem? (i := 862) (by decide +kernel)⟩
theorem lw_p36 : lw_okq (⟨"MemoryTransactions$Client", "forgetCuts", "()V"⟩, 8) := ⟨⟨by decide +kernel, by decide +kernel⟩, List.mem_of_getElem? (i := 223) (by decide +kernel), List.mem_of_getElem? (i := 876) (by decide +kernel), List.mem_of_getElem? (i := 877) (by decide +kernel)⟩
theorem lw_p37 : lw_okq (⟨"MemoryTransactions$Replay", "isTold", "(LMemoryTransactions$Journal;IIZ)Z"⟩, 5) := ⟨⟨by decide +kernel, by decide +kernel⟩, List.mem_of_getElem? (i := 387) (by decide +kernel), List.mem_of_getElem? (i := 938) (by decide +kernel), List.mem_of_getElem? (i := 939) (by decide +kernel)⟩
theorem lw_p38 : lw_okq (⟨"MemoryTransactionsModel", "readText", "()V"⟩, 76) := ⟨⟨by decide +kernel, by decide +kernel⟩, List.mem_of_getElem? (i := 968) (by decide +kernel), List.mem_of_getElem? (i := 1216) (by decide +kernel), List.mem_of_getElem? (i := 1217) (by decide +kernel)⟩
theorem lw_p39 : lw_okq (⟨"MemoryTransactionsModel", "next", "()V"⟩, 76) := ⟨⟨by decide +kernel, by decide +kernel⟩, List.mem_of_getElem? (i := 968) (by decide +kernel), List.mem_of_getElem? (i := 1220) (by decide +kernel), List.mem_of_getElem? (i := 1221) (by decide +kernel)⟩
theorem lw_p40 : lw_okq (⟨"MemoryTransactionsModel", "byteAt", "(I)I"⟩, 76) := ⟨⟨by decide +kernel, by decide +kernel⟩, List.mem_of_getElem? (i := 968) (by decide +kernel), List.mem_of_getElem? (i := 1224) (by decide +kernel), List.mem_of_getElem? (i := 1225) (by decide +kernel)⟩
theorem lw_p41 : lw_okq (⟨"MemoryTransactionsModel", "isSign", "(I)Z"⟩, 76) := ⟨⟨by decide +kernel, by decide +kernel⟩, List.mem_of_getElem? (i := 968) (by decide +kernel), List.mem_of_getElem? (i := 1252) (by decide +kernel), List.mem_of_getElem? (i := 1253) (by decide +kernel)⟩
theorem lw_p42 : lw_okq (⟨"MemoryTransactionsModel", "misplaced", "()V"⟩, 76) := ⟨⟨by decide +kernel, by decide +kernel⟩, List.mem_of_getElem? (i := 968) (by decide +kernel), List.mem_of_getElem? (i := 1256) (by decide +kernel), List.mem_of_getElem? (i := 1257) (by decide +kernel)⟩
theorem lw_p43 : lw_okq (⟨"MemoryTransactionsModel", "closeBody", "()V"⟩, 76) := ⟨⟨by decide +kernel, by decide +kernel⟩, List.mem_of_getElem? (i := 968) (by decide +kernel), List.mem_of_getElem? (i := 1260) (by decide +kernel), List.mem_of_getElem? (i := 1261) (by decide +kernel)⟩
theorem lw_p44 : lw_okq (⟨"MemoryTransactionsModel", "openBody", "(II)V"⟩, 76) := ⟨⟨by decide +kernel, by decide +kernel⟩, List.mem_of_getElem? (i := 968) (by decide +kernel), List.mem_of_getElem? (i := 1264) (by decide +kernel), List.mem_of_getElem? (i := 1265) (by decide +kernel)⟩
theorem lw_p45 : lw_okq (⟨"MemoryTransactionsModel", "takeWord", "(I)V"⟩, 76) := ⟨⟨by decide +kernel, by decide +kernel⟩, List.mem_of_getElem? (i := 968) (by decide +kernel), List.mem_of_getElem? (i := 1268) (by decide +kernel), List.mem_of_getElem? (i := 1269) (by decide +kernel)⟩
theorem lw_p46 : lw_okq (⟨"MemoryTransactionsModel", "readStatement", "()V"⟩, 76) := ⟨⟨by decide +kernel, by decide +kernel⟩, List.mem_of_getElem? (i := 968) (by decide +kernel), List.mem_of_getElem? (i := 1272) (by decide +kernel), List.mem_of_getElem? (i := 1273) (by decide +kernel)⟩
theorem lw_p47 : lw_okq (⟨"MemoryTransactionsModel", "newStatement", "()I"⟩, 76) := ⟨⟨by decide +kernel, by decide +kernel⟩, List.mem_of_getElem? (i := 968) (by decide +kernel), List.mem_of_getElem? (i := 1276) (by decide +kernel), List.mem_of_getElem? (i := 1277) (by decide +kernel)⟩
def lw_privs_3 : List (MethodName × Nat) := [(⟨"MemoryTransactions$Run", "walkExp", "()I"⟩, 11), (⟨"MemoryTransactions$Run", "toss", "(J)I"⟩, 11), (⟨"MemoryTransactions", "isHeld", "(I)Z"⟩, 10), (⟨"MemoryTransactions", "closeRun", "(II)I"⟩, 10), (⟨"MemoryTransactions$Client", "forgetCuts", "()V"⟩, 8), (⟨"MemoryTransactions$Replay", "isTold", "(LMemoryTransactions$Journal;IIZ)Z"⟩, 5), (⟨"MemoryTransactionsModel", "readText", "()V"⟩, 76), (⟨"MemoryTransactionsModel", "next", "()V"⟩, 76), (⟨"MemoryTransactionsModel", "byteAt", "(I)I"⟩, 76), (⟨"MemoryTransactionsModel", "isSign", "(I)Z"⟩, 76), (⟨"MemoryTransactionsModel", "misplaced", "()V"⟩, 76), (⟨"MemoryTransactionsModel", "closeBody", "()V"⟩, 76), (⟨"MemoryTransactionsModel", "openBody", "(II)V"⟩, 76), (⟨"MemoryTransactionsModel", "takeWord", "(I)V"⟩, 76), (⟨"MemoryTransactionsModel", "readStatement", "()V"⟩, 76), (⟨"MemoryTransactionsModel", "newStatement", "()I"⟩, 76)]
theorem lw_r3 : ∀ q ∈ lw_privs_3, lw_okq q := List.forall_mem_cons.mpr ⟨lw_p32, List.forall_mem_cons.mpr ⟨lw_p33, List.forall_mem_cons.mpr ⟨lw_p34, List.forall_mem_cons.mpr ⟨lw_p35, List.forall_mem_cons.mpr ⟨lw_p36, List.forall_mem_cons.mpr ⟨lw_p37, List.forall_mem_cons.mpr ⟨lw_p38, List.forall_mem_cons.mpr ⟨lw_p39, List.forall_mem_cons.mpr ⟨lw_p40, List.forall_mem_cons.mpr ⟨lw_p41, List.forall_mem_cons.mpr ⟨lw_p42, List.forall_mem_cons.mpr ⟨lw_p43, List.forall_mem_cons.mpr ⟨lw_p44, List.forall_mem_cons.mpr ⟨lw_p45, List.forall_mem_cons.mpr ⟨lw_p46, List.forall_mem_cons.mpr ⟨lw_p47, fun _ h => absurd h List.not_mem_nil⟩⟩⟩⟩⟩⟩⟩⟩⟩⟩⟩⟩⟩⟩⟩⟩
theorem lw_p48 : lw_okq (⟨"MemoryTransactionsModel", "take", "(I)V"⟩, 76) := ⟨⟨by decide +kernel, by decide +kernel⟩, List.mem_of_getElem? (i := 968) (by decide +kernel), List.mem_of_getElem? (i := 1280) (by decide +kernel), List.mem_of_getElem? (i := 1281) (by decide +kernel)⟩
theorem lw_p49 : lw_okq (⟨"MemoryTransactionsModel", "exp", "(Z)I"⟩, 76) := ⟨⟨by decide +kernel, by decide +kernel⟩, List.mem_of_getElem? (i := 968) (by decide +kernel), List.mem_of_getElem? (i := 1284) (by decide +kernel), List.mem_of_getElem? (i := 1285) (by decide +kernel)⟩
theorem lw_p50 : lw_okq (⟨"MemoryTransactionsModel", "readUnary", "(Z)Z"⟩, 76) := ⟨⟨by decide +kernel, by decide +kernel⟩, List.mem_of_getElem? (i := 968) (by decide +kernel), List.mem_of_getElem? (i := 1288) (by decide +kernel), List.mem_of_getElem? (i := 1289) (by decide +kernel)⟩
theorem lw_p51 : lw_okq (⟨"MemoryTransactionsModel", "act", "(IIJ)V"⟩, 76) := ⟨⟨by decide +kernel, by decide +kernel⟩, List.mem_of_getElem? (i := 968) (by decide +kernel), List.mem_of_getElem? (i := 1292) (by decide +kernel), List.mem_of_getElem? (i := 1293) (by decide +kernel)⟩
theorem lw_p52 : lw_okq (⟨"MemoryTransactionsModel", "operandIsThere", "()V"⟩, 76) := ⟨⟨by decide +kernel, by decide +kernel⟩, List.mem_of_getElem? (i := 968) (by decide +kernel), List.mem_of_getElem? (i := 1296) (by decide +kernel), List.mem_of_getElem? (i := 1297) (by decide +kernel)⟩
theorem lw_p53 : lw_okq (⟨"MemoryTransactionsModel", "reduce", "(I)V"⟩, 76) := ⟨⟨by decide +kernel, by decide +kernel⟩, List.mem_of_getElem? (i := 968) (by decide +kernel), List.mem_of_getElem? (i := 1300) (by decide +kernel), List.mem_of_getElem? (i := 1301) (by decide +kernel)⟩
theorem lw_p54 : lw_okq (⟨"MemoryTransactionsModel", "isClient", "(I)Z"⟩, 76) := ⟨⟨by decide +kernel, by decide +kernel⟩, List.mem_of_getElem? (i := 968) (by decide +kernel), List.mem_of_getElem? (i := 1319) (by decide +kernel), List.mem_of_getElem? (i := 1320) (by decide +kernel)⟩
theorem lw_p55 : lw_okq (⟨"MemoryTransactionsModel", "turnOf", "(I)I"⟩, 76) := ⟨⟨by decide +kernel, by decide +kernel⟩, List.mem_of_getElem? (i := 968) (by decide +kernel), List.mem_of_getElem? (i := 1323) (by decide +kernel), List.mem_of_getElem? (i := 1324) (by decide +kernel)⟩
theorem lw_p56 : lw_okq (⟨"MemoryTransactionsModel", "bringRead", "(I)V"⟩, 76) := ⟨⟨by decide +kernel, by decide +kernel⟩, List.mem_of_getElem? (i := 968) (by decide +kernel), List.mem_of_getElem? (i := 1327) (by decide +kernel), List.mem_of_getElem? (i := 1328) (by decide +kernel)⟩
theorem lw_p57 : lw_okq (⟨"MemoryTransactionsModel", "isChanged", "()Z"⟩, 76) := ⟨⟨by decide +kernel, by decide +kernel⟩, List.mem_of_getElem? (i := 968) (by decide +kernel), List.mem_of_getElem? (i := 1331) (by decide +kernel), List.mem_of_getElem? (i := 1332) (by decide +kernel)⟩
theorem lw_p58 : lw_okq (⟨"MemoryTransactionsModel", "walkAnew", "(I)V"⟩, 76) := ⟨⟨by decide +kernel, by decide +kernel⟩, List.mem_of_getElem? (i := 968) (by decide +kernel), List.mem_of_getElem? (i := 1335) (by decide +kernel), List.mem_of_getElem? (i := 1336) (by decide +kernel)⟩
theorem lw_p59 : lw_okq (⟨"MemoryTransactionsModel", "firstOf", "(I)I"⟩, 76) := ⟨⟨by decide +kernel, by decide +kernel⟩, List.mem_of_getElem? (i := 968) (by decide +kernel), List.mem_of_getElem? (i := 1339) (by decide +kernel), List.mem_of_getElem? (i := 1340) (by decide +kernel)⟩
theorem lw_p60 : lw_okq (⟨"MemoryTransactionsModel", "beginWalk", "(I)V"⟩, 76) := ⟨⟨by decide +kernel, by decide +kernel⟩, List.mem_of_getElem? (i := 968) (by decide +kernel), List.mem_of_getElem? (i := 1343) (by decide +kernel), List.mem_of_getElem? (i := 1344) (by decide +kernel)⟩
theorem lw_p61 : lw_okq (⟨"MemoryTransactionsModel", "step", "()I"⟩, 76) := ⟨⟨by decide +kernel, by decide +kernel⟩, List.mem_of_getElem? (i := 968) (by decide +kernel), List.mem_of_getElem? (i := 1347) (by decide +kernel), List.mem_of_getElem? (i := 1348) (by decide +kernel)⟩
theorem lw_p62 : lw_okq (⟨"MemoryTransactionsModel", "work", "(IZ)J"⟩, 76) := ⟨⟨by decide +kernel, by decide +kernel⟩, List.mem_of_getElem? (i := 968) (by decide +kernel), List.mem_of_getElem? (i := 1351) (by decide +kernel), List.mem_of_getElem? (i := 1352) (by decide +kernel)⟩
theorem lw_p63 : lw_okq (⟨"MemoryTransactionsModel", "valueOf", "(I)J"⟩, 76) := ⟨⟨by decide +kernel, by decide +kernel⟩, List.mem_of_getElem? (i := 968) (by decide +kernel), List.mem_of_getElem? (i := 1355) (by decide +kernel), List.mem_of_getElem? (i := 1356) (by decide +kernel)⟩
def lw_privs_4 : List (MethodName × Nat) := [(⟨"MemoryTransactionsModel", "take", "(I)V"⟩, 76), (⟨"MemoryTransactionsModel", "exp", "(Z)I"⟩, 76), (⟨"MemoryTransactionsModel", "readUnary", "(Z)Z"⟩, 76), (⟨"MemoryTransactionsModel", "act", "(IIJ)V"⟩, 76), (⟨"MemoryTransactionsModel", "operandIsThere", "()V"⟩, 76), (⟨"MemoryTransactionsModel", "reduce", "(I)V"⟩, 76), (⟨"MemoryTransactionsModel", "isClient", "(I)Z"⟩, 76), (⟨"MemoryTransactionsModel", "turnOf", "(I)I"⟩, 76), (⟨"MemoryTransactionsModel", "bringRead", "(I)V"⟩, 76), (⟨"MemoryTransactionsModel", "isChanged", "()Z"⟩, 76), (⟨"MemoryTransactionsModel", "walkAnew", "(I)V"⟩, 76), (⟨"MemoryTransactionsModel", "firstOf", "(I)I"⟩, 76), (⟨"MemoryTransactionsModel", "beginWalk", "(I)V"⟩, 76), (⟨"MemoryTransactionsModel", "step", "()I"⟩, 76), (⟨"MemoryTransactionsModel", "work", "(IZ)J"⟩, 76), (⟨"MemoryTransactionsModel", "valueOf", "(I)J"⟩, 76)]
theorem lw_r4 : ∀ q ∈ lw_privs_4, lw_okq q := List.forall_mem_cons.mpr ⟨lw_p48, List.forall_mem_cons.mpr ⟨lw_p49, List.forall_mem_cons.mpr ⟨lw_p50, List.forall_mem_cons.mpr ⟨lw_p51, List.forall_mem_cons.mpr ⟨lw_p52, List.forall_mem_cons.mpr ⟨lw_p53, List.forall_mem_cons.mpr ⟨lw_p54, List.forall_mem_cons.mpr ⟨lw_p55, List.forall_mem_cons.mpr ⟨lw_p56, List.forall_mem_cons.mpr ⟨lw_p57, List.forall_mem_cons.mpr ⟨lw_p58, List.forall_mem_cons.mpr ⟨lw_p59, List.forall_mem_cons.mpr ⟨lw_p60, List.forall_mem_cons.mpr ⟨lw_p61, List.forall_mem_cons.mpr ⟨lw_p62, List.forall_mem_cons.mpr ⟨lw_p63, fun _ h => absurd h List.not_mem_nil⟩⟩⟩⟩⟩⟩⟩⟩⟩⟩⟩⟩⟩⟩⟩⟩
theorem lw_p64 : lw_okq (⟨"MemoryTransactionsModel", "two", "(IJJ)J"⟩, 76) := ⟨⟨by decide +kernel, by decide +kernel⟩, List.mem_of_getElem? (i := 968) (by decide +kernel), List.mem_of_getElem? (i := 1359) (by decide +kernel), List.mem_of_getElem? (i := 1360) (by decide +kernel)⟩
theorem lw_p65 : lw_okq (⟨"MemoryTransactionsModel", "throwFrom", "(I)I"⟩, 76) := ⟨⟨by decide +kernel, by decide +kernel⟩, List.mem_of_getElem? (i := 968) (by decide +kernel), List.mem_of_getElem? (i := 1364) (by decide +kernel), List.mem_of_getElem? (i := 1365) (by decide +kernel)⟩
theorem lw_p66 : lw_okq (⟨"MemoryTransactionsModel", "around", "(II)I"⟩, 76) := ⟨⟨by decide +kernel, by decide +kernel⟩, List.mem_of_getElem? (i := 968) (by decide +kernel), List.mem_of_getElem? (i := 1368) (by decide +kernel), List.mem_of_getElem? (i := 1369) (by decide +kernel)⟩
theorem lw_p67 : lw_okq (⟨"MemoryTransactionsModel", "bringBack", "(I)V"⟩, 76) := ⟨⟨by decide +kernel, by decide +kernel⟩, List.mem_of_getElem? (i := 968) (by decide +kernel), List.mem_of_getElem? (i := 1372) (by decide +kernel), List.mem_of_getElem? (i := 1373) (by decide +kernel)⟩
theorem lw_p68 : lw_okq (⟨"MemoryTransactionsModel", "goIn", "(II)V"⟩, 76) := ⟨⟨by decide +kernel, by decide +kernel⟩, List.mem_of_getElem? (i := 968) (by decide +kernel), List.mem_of_getElem? (i := 1376) (by decide +kernel), List.mem_of_getElem? (i := 1377) (by decide +kernel)⟩
theorem lw_p69 : lw_okq (⟨"MemoryTransactionsModel", "behind", "(I)I"⟩, 76) := ⟨⟨by decide +kernel, by decide +kernel⟩, List.mem_of_getElem? (i := 968) (by decide +kernel), List.mem_of_getElem? (i := 1380) (by decide +kernel), List.mem_of_getElem? (i := 1381) (by decide +kernel)⟩
theorem lw_p70 : lw_okq (⟨"MemoryTransactionsModel", "retryFrom", "(I)I"⟩, 76) := ⟨⟨by decide +kernel, by decide +kernel⟩, List.mem_of_getElem? (i := 968) (by decide +kernel), List.mem_of_getElem? (i := 1384) (by decide +kernel), List.mem_of_getElem? (i := 1385) (by decide +kernel)⟩
theorem lw_p71 : lw_okq (⟨"MemoryTransactionsModel", "keep", "(I)V"⟩, 76) := ⟨⟨by decide +kernel, by decide +kernel⟩, List.mem_of_getElem? (i := 968) (by decide +kernel), List.mem_of_getElem? (i := 1388) (by decide +kernel), List.mem_of_getElem? (i := 1389) (by decide +kernel)⟩
theorem lw_p72 : lw_okq (⟨"MemoryTransactionsModel", "keepRead", "(I)V"⟩, 76) := ⟨⟨by decide +kernel, by decide +kernel⟩, List.mem_of_getElem? (i := 968) (by decide +kernel), List.mem_of_getElem? (i := 1393) (by decide +kernel), List.mem_of_getElem? (i := 1394) (by decide +kernel)⟩
theorem lw_p73 : lw_okq (⟨"MemoryTransactionsModel", "cutRun", "(I)I"⟩, 76) := ⟨⟨by decide +kernel, by decide +kernel⟩, List.mem_of_getElem? (i := 968) (by decide +kernel), List.mem_of_getElem? (i := 1397) (by decide +kernel), List.mem_of_getElem? (i := 1398) (by decide +kernel)⟩
theorem lw_p74 : lw_okq (⟨"MemoryTransactionsModel", "isHeld", "(I)Z"⟩, 76) := ⟨⟨by decide +kernel, by decide +kernel⟩, List.mem_of_getElem? (i := 968) (by decide +kernel), List.mem_of_getElem? (i := 1401) (by decide +kernel), List.mem_of_getElem? (i := 1402) (by decide +kernel)⟩
theorem lw_p75 : lw_okq (⟨"MemoryTransactionsModel", "endThrown", "(IJ)I"⟩, 76) := ⟨⟨by decide +kernel, by decide +kernel⟩, List.mem_of_getElem? (i := 968) (by decide +kernel), List.mem_of_getElem? (i := 1405) (by decide +kernel), List.mem_of_getElem? (i := 1406) (by decide +kernel)⟩
theorem lw_p76 : lw_okq (⟨"MemoryTransactionsModel", "addRow", "(IIIIIJ)V"⟩, 76) := ⟨⟨by decide +kernel, by decide +kernel⟩, List.mem_of_getElem? (i := 968) (by decide +kernel), List.mem_of_getElem? (i := 1409) (by decide +kernel), List.mem_of_getElem? (i := 1410) (by decide +kernel)⟩
theorem lw_p77 : lw_okq (⟨"MemoryTransactionsModel", "over", "(I)V"⟩, 76) := ⟨⟨by decide +kernel, by decide +kernel⟩, List.mem_of_getElem? (i := 968) (by decide +kernel), List.mem_of_getElem? (i := 1413) (by decide +kernel), List.mem_of_getElem? (i := 1414) (by decide +kernel)⟩
theorem lw_p78 : lw_okq (⟨"MemoryTransactionsModel", "isWell", "()Z"⟩, 76) := ⟨⟨by decide +kernel, by decide +kernel⟩, List.mem_of_getElem? (i := 968) (by decide +kernel), List.mem_of_getElem? (i := 1417) (by decide +kernel), List.mem_of_getElem? (i := 1418) (by decide +kernel)⟩
theorem lw_p79 : lw_okq (⟨"MemoryTransactionsModel", "rulesHold", "()Z"⟩, 76) := ⟨⟨by decide +kernel, by decide +kernel⟩, List.mem_of_getElem? (i := 968) (by decide +kernel), List.mem_of_getElem? (i := 1421) (by decide +kernel), List.mem_of_getElem? (i := 1422) (by decide +kernel)⟩
def lw_privs_5 : List (MethodName × Nat) := [(⟨"MemoryTransactionsModel", "two", "(IJJ)J"⟩, 76), (⟨"MemoryTransactionsModel", "throwFrom", "(I)I"⟩, 76), (⟨"MemoryTransactionsModel", "around", "(II)I"⟩, 76), (⟨"MemoryTransactionsModel", "bringBack", "(I)V"⟩, 76), (⟨"MemoryTransactionsModel", "goIn", "(II)V"⟩, 76), (⟨"MemoryTransactionsModel", "behind", "(I)I"⟩, 76), (⟨"MemoryTransactionsModel", "retryFrom", "(I)I"⟩, 76), (⟨"MemoryTransactionsModel", "keep", "(I)V"⟩, 76), (⟨"MemoryTransactionsModel", "keepRead", "(I)V"⟩, 76), (⟨"MemoryTransactionsModel", "cutRun", "(I)I"⟩, 76), (⟨"MemoryTransactionsModel", "isHeld", "(I)Z"⟩, 76), (⟨"MemoryTransactionsModel", "endThrown", "(IJ)I"⟩, 76), (⟨"MemoryTransactionsModel", "addRow", "(IIIIIJ)V"⟩, 76), (⟨"MemoryTransactionsModel", "over", "(I)V"⟩, 76), (⟨"MemoryTransactionsModel", "isWell", "()Z"⟩, 76), (⟨"MemoryTransactionsModel", "rulesHold", "()Z"⟩, 76)]
theorem lw_r5 : ∀ q ∈ lw_privs_5, lw_okq q := List.forall_mem_cons.mpr ⟨lw_p64, List.forall_mem_cons.mpr ⟨lw_p65, List.forall_mem_cons.mpr ⟨lw_p66, List.forall_mem_cons.mpr ⟨lw_p67, List.forall_mem_cons.mpr ⟨lw_p68, List.forall_mem_cons.mpr ⟨lw_p69, List.forall_mem_cons.mpr ⟨lw_p70, List.forall_mem_cons.mpr ⟨lw_p71, List.forall_mem_cons.mpr ⟨lw_p72, List.forall_mem_cons.mpr ⟨lw_p73, List.forall_mem_cons.mpr ⟨lw_p74, List.forall_mem_cons.mpr ⟨lw_p75, List.forall_mem_cons.mpr ⟨lw_p76, List.forall_mem_cons.mpr ⟨lw_p77, List.forall_mem_cons.mpr ⟨lw_p78, List.forall_mem_cons.mpr ⟨lw_p79, fun _ h => absurd h List.not_mem_nil⟩⟩⟩⟩⟩⟩⟩⟩⟩⟩⟩⟩⟩⟩⟩⟩
theorem lw_p80 : lw_okq (⟨"MemoryTransactionsModel", "holds", "(I)Z"⟩, 76) := ⟨⟨by decide +kernel, by decide +kernel⟩, List.mem_of_getElem? (i := 968) (by decide +kernel), List.mem_of_getElem? (i := 1425) (by decide +kernel), List.mem_of_getElem? (i := 1426) (by decide +kernel)⟩
theorem lw_p81 : lw_okq (⟨"MemoryTransactionsModel", "bringIn", "()V"⟩, 76) := ⟨⟨by decide +kernel, by decide +kernel⟩, List.mem_of_getElem? (i := 968) (by decide +kernel), List.mem_of_getElem? (i := 1430) (by decide +kernel), List.mem_of_getElem? (i := 1431) (by decide +kernel)⟩
theorem lw_p82 : lw_okq (⟨"MemoryTransactionsModel", "comesToSame", "(I)Z"⟩, 76) := ⟨⟨by decide +kernel, by decide +kernel⟩, List.mem_of_getElem? (i := 968) (by decide +kernel), List.mem_of_getElem? (i := 1484) (by decide +kernel), List.mem_of_getElem? (i := 1485) (by decide +kernel)⟩
theorem lw_p83 : lw_okq (⟨"MemoryTransactionsModel", "beginRun", "(I)V"⟩, 76) := ⟨⟨by decide +kernel, by decide +kernel⟩, List.mem_of_getElem? (i := 968) (by decide +kernel), List.mem_of_getElem? (i := 1488) (by decide +kernel), List.mem_of_getElem? (i := 1489) (by decide +kernel)⟩
def lw_privs_6 : List (MethodName × Nat) := [(⟨"MemoryTransactionsModel", "holds", "(I)Z"⟩, 76), (⟨"MemoryTransactionsModel", "bringIn", "()V"⟩, 76), (⟨"MemoryTransactionsModel", "comesToSame", "(I)Z"⟩, 76), (⟨"MemoryTransactionsModel", "beginRun", "(I)V"⟩, 76)]
theorem lw_r6 : ∀ q ∈ lw_privs_6, lw_okq q := List.forall_mem_cons.mpr ⟨lw_p80, List.forall_mem_cons.mpr ⟨lw_p81, List.forall_mem_cons.mpr ⟨lw_p82, List.forall_mem_cons.mpr ⟨lw_p83, fun _ h => absurd h List.not_mem_nil⟩⟩⟩⟩
def lw_privs : List (MethodName × Nat) := lw_privs_1 ++ (lw_privs_2 ++ (lw_privs_3 ++ (lw_privs_4 ++ (lw_privs_5 ++ (lw_privs_6)))))
def lw_tbl : List Cond := k2_sels lw_privs ++ tables_1
theorem lw_privs_ok : ∀ q ∈ lw_privs, lw_okq q := by
  show ∀ q ∈ lw_privs_1 ++ (lw_privs_2 ++ (lw_privs_3 ++ (lw_privs_4 ++ (lw_privs_5 ++ (lw_privs_6))))), lw_okq q
  exact List.forall_mem_append.mpr ⟨lw_r1, List.forall_mem_append.mpr ⟨lw_r2, List.forall_mem_append.mpr ⟨lw_r3, List.forall_mem_append.mpr ⟨lw_r4, List.forall_mem_append.mpr ⟨lw_r5, lw_r6⟩⟩⟩⟩⟩
end
section
/-! THE TABLES of this class, printed by wip/tools/tables.py -/
def tb0 : List Cond := lw_tbl.filter goodWord
def sp0 : List Cond := lw_tbl.filter rf_spk
theorem tbm {w : Cond} (i : Nat) (h : (decide (lw_tbl[i]? = some w) && goodWord w) = true) : w ∈ tb0 := by
  simp only [Bool.and_eq_true, decide_eq_true_eq] at h
  exact List.mem_filter.mpr ⟨List.mem_of_getElem? h.1, h.2⟩
theorem spm {w : Cond} (i : Nat) (h : (decide (lw_tbl[i]? = some w) && rf_spk w) = true) : w ∈ sp0 := by
  simp only [Bool.and_eq_true, decide_eq_true_eq] at h
  exact List.mem_filter.mpr ⟨List.mem_of_getElem? h.1, h.2⟩
theorem tbl {ws : List Cond} (ps : List Nat) (h : (decide (ps.map (fun i => lw_tbl[i]?) = ws.map some) && ws.all goodWord) = true) : ∀ w ∈ ws, w ∈ tb0 := by
  simp only [Bool.and_eq_true, decide_eq_true_eq, List.all_eq_true] at h
  intro w hw
  have h2 : some w ∈ ps.map (fun i => lw_tbl[i]?) := by rw [h.1]; exact List.mem_map.mpr ⟨w, hw, rfl⟩
  obtain ⟨i, -, hi⟩ := List.mem_map.mp h2
  exact List.mem_filter.mpr ⟨List.mem_of_getElem? hi, h.2 w hw⟩
theorem tb1 {w : Cond} (i : Nat) (h : tables_1_1[i]? = some w) (hg : goodWord w = true) : w ∈ tb0 := by
  refine List.mem_filter.mpr ⟨List.mem_append_right _ ?_, hg⟩
  have h1 := List.mem_of_getElem? h
  unfold tables_1
  simp only [List.mem_append]
  simp only [h1, true_or, or_true]
theorem tb2 {w : Cond} (i : Nat) (h : tables_1_2[i]? = some w) (hg : goodWord w = true) : w ∈ tb0 := by
  refine List.mem_filter.mpr ⟨List.mem_append_right _ ?_, hg⟩
  have h1 := List.mem_of_getElem? h
  unfold tables_1
  simp only [List.mem_append]
  simp only [h1, true_or, or_true]
theorem tb3 {w : Cond} (i : Nat) (h : tables_1_3[i]? = some w) (hg : goodWord w = true) : w ∈ tb0 := by
  refine List.mem_filter.mpr ⟨List.mem_append_right _ ?_, hg⟩
  have h1 := List.mem_of_getElem? h
  unfold tables_1
  simp only [List.mem_append]
  simp only [h1, true_or, or_true]
theorem tb4 {w : Cond} (i : Nat) (h : tables_1_4[i]? = some w) (hg : goodWord w = true) : w ∈ tb0 := by
  refine List.mem_filter.mpr ⟨List.mem_append_right _ ?_, hg⟩
  have h1 := List.mem_of_getElem? h
  unfold tables_1
  simp only [List.mem_append]
  simp only [h1, true_or, or_true]
theorem tb5 {w : Cond} (i : Nat) (h : tables_1_5[i]? = some w) (hg : goodWord w = true) : w ∈ tb0 := by
  refine List.mem_filter.mpr ⟨List.mem_append_right _ ?_, hg⟩
  have h1 := List.mem_of_getElem? h
  unfold tables_1
  simp only [List.mem_append]
  simp only [h1, true_or, or_true]
theorem tb6 {w : Cond} (i : Nat) (h : tables_1_6[i]? = some w) (hg : goodWord w = true) : w ∈ tb0 := by
  refine List.mem_filter.mpr ⟨List.mem_append_right _ ?_, hg⟩
  have h1 := List.mem_of_getElem? h
  unfold tables_1
  simp only [List.mem_append]
  simp only [h1, true_or, or_true]
theorem tb7 {w : Cond} (i : Nat) (h : tables_1_7[i]? = some w) (hg : goodWord w = true) : w ∈ tb0 := by
  refine List.mem_filter.mpr ⟨List.mem_append_right _ ?_, hg⟩
  have h1 := List.mem_of_getElem? h
  unfold tables_1
  simp only [List.mem_append]
  simp only [h1, true_or, or_true]
theorem tb0_good : ∀ w ∈ tb0, (w.onTables && w.keeps) = true ∨ ∃ ty, w = .arrayClass ty := fun w h => good_of_word (List.mem_filter.mp h).2
theorem sp0_spk : ∀ w ∈ sp0, rf_spk w = true := fun w h => (List.mem_filter.mp h).2
def fl_0 : List (String × String × String × Bool) := [("MemoryTransactions", "tape", "[I", true), ("MemoryTransactions", "tapeLength", "I", false), ("MemoryTransactions", "programs", "[LMemoryTransactions$Program;", true), ("MemoryTransactions", "programCount", "I", false), ("MemoryTransactions", "faultPlace", "I", false), ("MemoryTransactions", "parser", "LMemoryTransactions$Parser;", true), ("MemoryTransactions", "store", "LMemoryTransactions$Store;", true), ("MemoryTransactions", "clients", "[LMemoryTransactions$Client;", true), ("MemoryTransactions", "journal", "LMemoryTransactions$Journal;", true), ("MemoryTransactions", "replay", "LMemoryTransactions$Replay;", true)]
def tl_0 : List FieldType := [(.array .int), .int, (.array (.object "MemoryTransactions$Program")), .int, .int, (.object "MemoryTransactions$Parser"), (.object "MemoryTransactions$Store"), (.array (.object "MemoryTransactions$Client")), (.object "MemoryTransactions$Journal"), (.object "MemoryTransactions$Replay")]
def cq_0 : vw_C := ("MemoryTransactions", (fun k => fl_0.getD k ("", "", "", false)), 10)
def fl_1 : List (String × String × String × Bool) := [("MemoryTransactions$Program", "count", "I", false), ("MemoryTransactions$Program", "unaries", "I", false), ("MemoryTransactions$Program", "deepest", "I", false), ("MemoryTransactions$Program", "codeCount", "I", false), ("MemoryTransactions$Program", "entry", "I", false), ("MemoryTransactions$Program", "kinds", "[I", true), ("MemoryTransactions$Program", "letters", "[I", true), ("MemoryTransactions$Program", "codes", "[I", true), ("MemoryTransactions$Program", "parents", "[I", true), ("MemoryTransactions$Program", "parts", "[I", true), ("MemoryTransactions$Program", "depths", "[I", true), ("MemoryTransactions$Program", "siblings", "[I", true), ("MemoryTransactions$Program", "firsts", "[I", true), ("MemoryTransactions$Program", "seconds", "[I", true), ("MemoryTransactions$Program", "operations", "[I", true), ("MemoryTransactions$Program", "operands", "[I", true)]
def tl_1 : List FieldType := [.int, .int, .int, .int, .int, (.array .int), (.array .int), (.array .int), (.array .int), (.array .int), (.array .int), (.array .int), (.array .int), (.array .int), (.array .int), (.array .int)]
def cq_1 : vw_C := ("MemoryTransactions$Program", (fun k => fl_1.getD k ("", "", "", false)), 16)
def fl_2 : List (String × String × String × Bool) := [("MemoryTransactions$Parser", "scanner", "LMemoryTransactions$Scanner;", true), ("MemoryTransactions$Parser", "program", "LMemoryTransactions$Program;", false), ("MemoryTransactions$Parser", "at", "I", false), ("MemoryTransactions$Parser", "fault", "I", false), ("MemoryTransactions$Parser", "inRule", "Z", false)]
def tl_2 : List FieldType := [(.object "MemoryTransactions$Scanner"), (.object "MemoryTransactions$Program"), .int, .int, .boolean]
def cq_2 : vw_C := ("MemoryTransactions$Parser", (fun k => fl_2.getD k ("", "", "", false)), 5)
def fl_3 : List (String × String × String × Bool) := [("MemoryTransactions$Scanner", "tokens", "[I", true), ("MemoryTransactions$Scanner", "starts", "[I", true), ("MemoryTransactions$Scanner", "numbers", "[I", true), ("MemoryTransactions$Scanner", "last", "I", false), ("MemoryTransactions$Scanner", "bytes", "[I", false), ("MemoryTransactions$Scanner", "length", "I", false), ("MemoryTransactions$Scanner", "next", "I", false)]
def tl_3 : List FieldType := [(.array .int), (.array .int), (.array .int), .int, (.array .int), .int, .int]
def cq_3 : vw_C := ("MemoryTransactions$Scanner", (fun k => fl_3.getD k ("", "", "", false)), 7)
def fl_4 : List (String × String × String × Bool) := [("MemoryTransactions$Store", "values", "[J", true), ("MemoryTransactions$Store", "versions", "[I", true), ("MemoryTransactions$Store", "ruleCount", "I", false), ("MemoryTransactions$Store", "rulePrograms", "[LMemoryTransactions$Program;", true), ("MemoryTransactions$Store", "ruleStatements", "[I", true), ("MemoryTransactions$Store", "ahead", "[J", true), ("MemoryTransactions$Store", "calculator", "LMemoryTransactions$Calculator;", true), ("MemoryTransactions$Letters", "found", "J", false)]
def tl_4 : List FieldType := [(.array .long), (.array .int), .int, (.array (.object "MemoryTransactions$Program")), (.array .int), (.array .long), (.object "MemoryTransactions$Calculator"), .long]
def cq_4 : vw_C := ("MemoryTransactions$Store", (fun k => fl_4.getD k ("", "", "", false)), 8)
def fl_5 : List (String × String × String × Bool) := [("MemoryTransactions$Calculator", "stack", "[J", true), ("MemoryTransactions$Calculator", "height", "I", false)]
def tl_5 : List FieldType := [(.array .long), .int]
def cq_5 : vw_C := ("MemoryTransactions$Calculator", (fun k => fl_5.getD k ("", "", "", false)), 2)
def fl_6 : List (String × String × String × Bool) := [("MemoryTransactions$Client", "state", "I", false), ("MemoryTransactions$Client", "cuts", "I", false), ("MemoryTransactions$Client", "urgent", "Z", false), ("MemoryTransactions$Client", "todo", "[I", true), ("MemoryTransactions$Client", "run", "LMemoryTransactions$Run;", true), ("MemoryTransactions$Client", "count", "I", false), ("MemoryTransactions$Client", "waitMask", "I", false), ("MemoryTransactions$Client", "waitVersions", "[I", true)]
def tl_6 : List FieldType := [.int, .int, .boolean, (.array .int), (.object "MemoryTransactions$Run"), .int, .int, (.array .int)]
def cq_6 : vw_C := ("MemoryTransactions$Client", (fun k => fl_6.getD k ("", "", "", false)), 8)
def fl_7 : List (String × String × String × Bool) := [("MemoryTransactions$Run", "program", "LMemoryTransactions$Program;", false), ("MemoryTransactions$Run", "steps", "I", false), ("MemoryTransactions$Run", "readMask", "I", false), ("MemoryTransactions$Run", "thrown", "J", false), ("MemoryTransactions$Run", "readVersions", "[I", true), ("MemoryTransactions$Run", "draft", "LMemoryTransactions$Draft;", true), ("MemoryTransactions$Run", "at", "I", false), ("MemoryTransactions$Run", "readValues", "[J", true), ("MemoryTransactions$Run", "store", "LMemoryTransactions$Store;", true), ("MemoryTransactions$Run", "calculator", "LMemoryTransactions$Calculator;", true), ("MemoryTransactions$Letters", "found", "J", false)]
def tl_7 : List FieldType := [(.object "MemoryTransactions$Program"), .int, .int, .long, (.array .int), (.object "MemoryTransactions$Draft"), .int, (.array .long), (.object "MemoryTransactions$Store"), (.object "MemoryTransactions$Calculator"), .long]
def cq_7 : vw_C := ("MemoryTransactions$Run", (fun k => fl_7.getD k ("", "", "", false)), 11)
def fl_8 : List (String × String × String × Bool) := [("MemoryTransactions$Draft", "writtenMask", "I", false), ("MemoryTransactions$Draft", "written", "[J", true), ("MemoryTransactions$Draft", "locals", "[J", true), ("MemoryTransactions$Draft", "ruleCount", "I", false), ("MemoryTransactions$Draft", "rules", "[I", true), ("MemoryTransactions$Draft", "markedMasks", "[I", true), ("MemoryTransactions$Draft", "markedWritten", "[J", true), ("MemoryTransactions$Draft", "markedLocals", "[J", true), ("MemoryTransactions$Draft", "markedRuleCounts", "[I", true)]
def tl_8 : List FieldType := [.int, (.array .long), (.array .long), .int, (.array .int), (.array .int), (.array .long), (.array .long), (.array .int)]
def cq_8 : vw_C := ("MemoryTransactions$Draft", (fun k => fl_8.getD k ("", "", "", false)), 9)
def fl_9 : List (String × String × String × Bool) := [("MemoryTransactions$Journal", "count", "I", false), ("MemoryTransactions$Journal", "kinds", "[I", true), ("MemoryTransactions$Journal", "who", "[I", true), ("MemoryTransactions$Journal", "what", "[I", true), ("MemoryTransactions$Journal", "steps", "[I", true), ("MemoryTransactions$Journal", "cuts", "[I", true), ("MemoryTransactions$Journal", "values", "[J", true)]
def tl_9 : List FieldType := [.int, (.array .int), (.array .int), (.array .int), (.array .int), (.array .int), (.array .long)]
def cq_9 : vw_C := ("MemoryTransactions$Journal", (fun k => fl_9.getD k ("", "", "", false)), 7)
def fl_10 : List (String × String × String × Bool) := [("MemoryTransactions$Replay", "store", "LMemoryTransactions$Store;", true), ("MemoryTransactions$Replay", "redone", "I", false), ("MemoryTransactions$Replay", "same", "Z", false), ("MemoryTransactions$Replay", "programs", "[LMemoryTransactions$Program;", true), ("MemoryTransactions$Replay", "run", "LMemoryTransactions$Run;", true)]
def tl_10 : List FieldType := [(.object "MemoryTransactions$Store"), .int, .boolean, (.array (.object "MemoryTransactions$Program")), (.object "MemoryTransactions$Run")]
def cq_10 : vw_C := ("MemoryTransactions$Replay", (fun k => fl_10.getD k ("", "", "", false)), 5)
def fl_11 : List (String × String × String × Bool) := [("MemoryTransactionsModel", "code", "I", false), ("MemoryTransactionsModel", "tape", "[B", true), ("MemoryTransactionsModel", "size", "I", false), ("MemoryTransactionsModel", "at", "I", false), ("MemoryTransactionsModel", "token", "I", false), ("MemoryTransactionsModel", "tokenPlace", "I", false), ("MemoryTransactionsModel", "letter", "I", false), ("MemoryTransactionsModel", "number", "J", false), ("MemoryTransactionsModel", "sign", "I", false), ("MemoryTransactionsModel", "bad", "Z", false), ("MemoryTransactionsModel", "place", "I", false), ("MemoryTransactionsModel", "texts", "I", false), ("MemoryTransactionsModel", "statementCounts", "[I", true), ("MemoryTransactionsModel", "unaryCounts", "[I", true), ("MemoryTransactionsModel", "depths", "[I", true), ("MemoryTransactionsModel", "firstStatements", "[I", true), ("MemoryTransactionsModel", "actCounts", "[I", true), ("MemoryTransactionsModel", "kinds", "[I", true), ("MemoryTransactionsModel", "nexts", "[I", true), ("MemoryTransactionsModel", "parents", "[I", true), ("MemoryTransactionsModel", "whiches", "[I", true), ("MemoryTransactionsModel", "exps", "[I", true), ("MemoryTransactionsModel", "firstBodies", "[I", true), ("MemoryTransactionsModel", "secondBodies", "[I", true), ("MemoryTransactionsModel", "letters", "[I", true), ("MemoryTransactionsModel", "acts", "[I", true), ("MemoryTransactionsModel", "actLetters", "[I", true), ("MemoryTransactionsModel", "actNumbers", "[J", true), ("MemoryTransactionsModel", "reading", "I", false), ("MemoryTransactionsModel", "pile", "[I", true), ("MemoryTransactionsModel", "piled", "I", false), ("MemoryTransactionsModel", "opens", "I", false), ("MemoryTransactionsModel", "compared", "[Z", true), ("MemoryTransactionsModel", "level", "I", false), ("MemoryTransactionsModel", "openOwners", "[I", true), ("MemoryTransactionsModel", "openWhiches", "[I", true), ("MemoryTransactionsModel", "openLasts", "[I", true), ("MemoryTransactionsModel", "within", "I", false), ("MemoryTransactionsModel", "cells", "[J", true), ("MemoryTransactionsModel", "versions", "[I", true), ("MemoryTransactionsModel", "ruleCounts", "[I", true), ("MemoryTransactionsModel", "ruleExps", "[I", true), ("MemoryTransactionsModel", "world", "I", false), ("MemoryTransactionsModel", "queues", "[I", true), ("MemoryTransactionsModel", "queueCounts", "[I", true), ("MemoryTransactionsModel", "states", "[I", true), ("MemoryTransactionsModel", "steps", "[I", true), ("MemoryTransactionsModel", "cuts", "[I", true), ("MemoryTransactionsModel", "urgent", "[Z", true), ("MemoryTransactionsModel", "readBits", "[I", true), ("MemoryTransactionsModel", "readValues", "[J", true), ("MemoryTransactionsModel", "readVersions", "[I", true), ("MemoryTransactionsModel", "bits", "I", false), ("MemoryTransactionsModel", "seen", "[J", true), ("MemoryTransactionsModel", "seenVersions", "[I", true), ("MemoryTransactionsModel", "writtenBits", "I", false), ("MemoryTransactionsModel", "written", "[J", true), ("MemoryTransactionsModel", "locals", "[J", true), ("MemoryTransactionsModel", "alwaysCount", "I", false), ("MemoryTransactionsModel", "always", "[I", true), ("MemoryTransactionsModel", "pos", "I", false), ("MemoryTransactionsModel", "keptBits", "[I", true), ("MemoryTransactionsModel", "keptWritten", "[J", true), ("MemoryTransactionsModel", "keptLocals", "[J", true), ("MemoryTransactionsModel", "keptAlways", "[I", true), ("MemoryTransactionsModel", "ended", "I", false), ("MemoryTransactionsModel", "thrownValue", "J", false), ("MemoryTransactionsModel", "stack", "[J", true), ("MemoryTransactionsModel", "would", "[J", true), ("MemoryTransactionsModel", "rows", "I", false), ("MemoryTransactionsModel", "rowKinds", "[I", true), ("MemoryTransactionsModel", "rowClients", "[I", true), ("MemoryTransactionsModel", "rowNumbers", "[I", true), ("MemoryTransactionsModel", "rowSteps", "[I", true), ("MemoryTransactionsModel", "rowCuts", "[I", true), ("MemoryTransactionsModel", "rowValues", "[J", true)]
def tl_11 : List FieldType := [.int, (.array .byte), .int, .int, .int, .int, .int, .long, .int, .boolean, .int, .int, (.array .int), (.array .int), (.array .int), (.array .int), (.array .int), (.array .int), (.array .int), (.array .int), (.array .int), (.array .int), (.array .int), (.array .int), (.array .int), (.array .int), (.array .int), (.array .long), .int, (.array .int), .int, .int, (.array .boolean), .int, (.array .int), (.array .int), (.array .int), .int, (.array .long), (.array .int), (.array .int), (.array .int), .int, (.array .int), (.array .int), (.array .int), (.array .int), (.array .int), (.array .boolean), (.array .int), (.array .long), (.array .int), .int, (.array .long), (.array .int), .int, (.array .long), (.array .long), .int, (.array .int), .int, (.array .int), (.array .long), (.array .long), (.array .int), .int, .long, (.array .long), (.array .long), .int, (.array .int), (.array .int), (.array .int), (.array .int), (.array .int), (.array .long)]
def cq_11 : vw_C := ("MemoryTransactionsModel", (fun k => fl_11.getD k ("", "", "", false)), 76)
def cl0 : List vw_C := [cq_0, cq_1, cq_2, cq_3, cq_4, cq_5, cq_6, cq_7, cq_8, cq_9, cq_10, cq_11]
def oq_0 : vw_C := ("java/lang/String", (fun k => if k = 0 then ("java/lang/String", "value", "[B", true) else ("java/lang/String", "coder", "B", true)), 2)
def ocl0 : List vw_C := [oq_0]
def tyL : List (List FieldType) := [tl_0, tl_1, tl_2, tl_3, tl_4, tl_5, tl_6, tl_7, tl_8, tl_9, tl_10, tl_11]
def ty0 : Int → Nat → FieldType := fun z k => if z < 0 then (if k = 0 then .array .byte else .byte) else (tyL.getD z.toNat []).getD k .int
def str0 : List (String × Nat × String × Nat) := [("MemoryTransactions$Scanner", 63, "if", 2), ("MemoryTransactions$Scanner", 69, "else", 4), ("MemoryTransactions$Scanner", 71, "while", 6), ("MemoryTransactions$Scanner", 73, "retry", 8), ("MemoryTransactions$Scanner", 75, "throw", 10), ("MemoryTransactions$Scanner", 77, "either", 12), ("MemoryTransactions$Scanner", 79, "or", 14), ("MemoryTransactions$Scanner", 81, "try", 16), ("MemoryTransactions$Scanner", 83, "catch", 18), ("MemoryTransactions$Scanner", 85, "always", 20)]
def stt0 (fz : Bool) : List (String × String × String × Value) := [("java/lang/String", "COMPACT_STRINGS", "Z", Value.int (Int32.ofNat 1)), ("jdk/internal/util/Preconditions", "SIOOBE_FORMATTER", "Ljava/util/function/BiFunction;", if fz then Value.ref 0 else Value.null)]
theorem uw_0 : ∀ w ∈ u_ws cq_0.1 cq_0.2.1 cq_0.2.2, w ∈ tb0 := tbl [509, 511, 513, 515, 517, 519, 521, 523, 525, 527] (by decide +kernel)
theorem ut_0 : ∀ k, k < cq_0.2.2 → (parseFieldDescriptor (cq_0.2.1 k).2.2.1 = some (ty0 (0 : Nat) k) ∧ ty0 (0 : Nat) k ≠ .float ∧ ty0 (0 : Nat) k ≠ .double) := by decide +kernel
theorem ins_0 : Cond.instantiable cq_0.1 cq_0.2.2 ∈ tb0 := (tb1 22 rfl rfl)
theorem un_0 : ∀ a, a < cq_0.2.2 → ∀ b, b < cq_0.2.2 → a ≠ b → (cq_0.2.1 a).2.1 ≠ (cq_0.2.1 b).2.1 := by decide +kernel
theorem uw_1 : ∀ w ∈ u_ws cq_1.1 cq_1.2.1 cq_1.2.2, w ∈ tb0 := tbl [157, 159, 161, 163, 165, 167, 169, 171, 173, 175, 177, 179, 181, 183, 185, 187] (by decide +kernel)
theorem ut_1 : ∀ k, k < cq_1.2.2 → (parseFieldDescriptor (cq_1.2.1 k).2.2.1 = some (ty0 (1 : Nat) k) ∧ ty0 (1 : Nat) k ≠ .float ∧ ty0 (1 : Nat) k ≠ .double) := by decide +kernel
theorem ins_1 : Cond.instantiable cq_1.1 cq_1.2.2 ∈ tb0 := (tb1 31 rfl rfl)
theorem un_1 : ∀ a, a < cq_1.2.2 → ∀ b, b < cq_1.2.2 → a ≠ b → (cq_1.2.1 a).2.1 ≠ (cq_1.2.1 b).2.1 := by decide +kernel
theorem uw_2 : ∀ w ∈ u_ws cq_2.1 cq_2.2.1 cq_2.2.2, w ∈ tb0 := tbl [236, 238, 240, 242, 244] (by decide +kernel)
theorem ut_2 : ∀ k, k < cq_2.2.2 → (parseFieldDescriptor (cq_2.2.1 k).2.2.1 = some (ty0 (2 : Nat) k) ∧ ty0 (2 : Nat) k ≠ .float ∧ ty0 (2 : Nat) k ≠ .double) := by decide +kernel
theorem ins_2 : Cond.instantiable cq_2.1 cq_2.2.2 ∈ tb0 := (tb1 108 rfl rfl)
theorem un_2 : ∀ a, a < cq_2.2.2 → ∀ b, b < cq_2.2.2 → a ≠ b → (cq_2.2.1 a).2.1 ≠ (cq_2.2.1 b).2.1 := by decide +kernel
theorem uw_3 : ∀ w ∈ u_ws cq_3.1 cq_3.2.1 cq_3.2.2, w ∈ tb0 := tbl [214, 216, 218, 220, 222, 224, 226] (by decide +kernel)
theorem ut_3 : ∀ k, k < cq_3.2.2 → (parseFieldDescriptor (cq_3.2.1 k).2.2.1 = some (ty0 (3 : Nat) k) ∧ ty0 (3 : Nat) k ≠ .float ∧ ty0 (3 : Nat) k ≠ .double) := by decide +kernel
theorem ins_3 : Cond.instantiable cq_3.1 cq_3.2.2 ∈ tb0 := (tb1 114 rfl rfl)
theorem un_3 : ∀ a, a < cq_3.2.2 → ∀ b, b < cq_3.2.2 → a ≠ b → (cq_3.2.1 a).2.1 ≠ (cq_3.2.1 b).2.1 := by decide +kernel
theorem uw_4 : ∀ w ∈ u_ws cq_4.1 cq_4.2.1 cq_4.2.2, w ∈ tb0 := tbl [288, 290, 292, 294, 296, 298, 300, 302] (by decide +kernel)
theorem ut_4 : ∀ k, k < cq_4.2.2 → (parseFieldDescriptor (cq_4.2.1 k).2.2.1 = some (ty0 (4 : Nat) k) ∧ ty0 (4 : Nat) k ≠ .float ∧ ty0 (4 : Nat) k ≠ .double) := by decide +kernel
theorem ins_4 : Cond.instantiable cq_4.1 cq_4.2.2 ∈ tb0 := (tb1 164 rfl rfl)
theorem un_4 : ∀ a, a < cq_4.2.2 → ∀ b, b < cq_4.2.2 → a ≠ b → (cq_4.2.1 a).2.1 ≠ (cq_4.2.1 b).2.1 := by decide +kernel
theorem uw_5 : ∀ w ∈ u_ws cq_5.1 cq_5.2.1 cq_5.2.2, w ∈ tb0 := tbl [265, 267] (by decide +kernel)
theorem ut_5 : ∀ k, k < cq_5.2.2 → (parseFieldDescriptor (cq_5.2.1 k).2.2.1 = some (ty0 (5 : Nat) k) ∧ ty0 (5 : Nat) k ≠ .float ∧ ty0 (5 : Nat) k ≠ .double) := by decide +kernel
theorem ins_5 : Cond.instantiable cq_5.1 cq_5.2.2 ∈ tb0 := (tb1 174 rfl rfl)
theorem un_5 : ∀ a, a < cq_5.2.2 → ∀ b, b < cq_5.2.2 → a ≠ b → (cq_5.2.1 a).2.1 ≠ (cq_5.2.1 b).2.1 := by decide +kernel
theorem uw_6 : ∀ w ∈ u_ws cq_6.1 cq_6.2.1 cq_6.2.2, w ∈ tb0 := tbl [419, 421, 423, 425, 427, 429, 431, 433] (by decide +kernel)
theorem ut_6 : ∀ k, k < cq_6.2.2 → (parseFieldDescriptor (cq_6.2.1 k).2.2.1 = some (ty0 (6 : Nat) k) ∧ ty0 (6 : Nat) k ≠ .float ∧ ty0 (6 : Nat) k ≠ .double) := by decide +kernel
theorem ins_6 : Cond.instantiable cq_6.1 cq_6.2.2 ∈ tb0 := (tb1 223 rfl rfl)
theorem un_6 : ∀ a, a < cq_6.2.2 → ∀ b, b < cq_6.2.2 → a ≠ b → (cq_6.2.1 a).2.1 ≠ (cq_6.2.1 b).2.1 := by decide +kernel
theorem uw_7 : ∀ w ∈ u_ws cq_7.1 cq_7.2.1 cq_7.2.2, w ∈ tb0 := tbl [384, 386, 388, 390, 392, 394, 396, 398, 400, 402, 404] (by decide +kernel)
theorem ut_7 : ∀ k, k < cq_7.2.2 → (parseFieldDescriptor (cq_7.2.1 k).2.2.1 = some (ty0 (7 : Nat) k) ∧ ty0 (7 : Nat) k ≠ .float ∧ ty0 (7 : Nat) k ≠ .double) := by decide +kernel
theorem ins_7 : Cond.instantiable cq_7.1 cq_7.2.2 ∈ tb0 := (tb1 229 rfl rfl)
theorem un_7 : ∀ a, a < cq_7.2.2 → ∀ b, b < cq_7.2.2 → a ≠ b → (cq_7.2.1 a).2.1 ≠ (cq_7.2.1 b).2.1 := by decide +kernel
theorem uw_8 : ∀ w ∈ u_ws cq_8.1 cq_8.2.1 cq_8.2.2, w ∈ tb0 := tbl [340, 342, 344, 346, 348, 350, 352, 354, 356] (by decide +kernel)
theorem ut_8 : ∀ k, k < cq_8.2.2 → (parseFieldDescriptor (cq_8.2.1 k).2.2.1 = some (ty0 (8 : Nat) k) ∧ ty0 (8 : Nat) k ≠ .float ∧ ty0 (8 : Nat) k ≠ .double) := by decide +kernel
theorem ins_8 : Cond.instantiable cq_8.1 cq_8.2.2 ∈ tb0 := (tb1 235 rfl rfl)
theorem un_8 : ∀ a, a < cq_8.2.2 → ∀ b, b < cq_8.2.2 → a ≠ b → (cq_8.2.1 a).2.1 ≠ (cq_8.2.1 b).2.1 := by decide +kernel
theorem uw_9 : ∀ w ∈ u_ws cq_9.1 cq_9.2.1 cq_9.2.2, w ∈ tb0 := tbl [455, 457, 459, 461, 463, 465, 467] (by decide +kernel)
theorem ut_9 : ∀ k, k < cq_9.2.2 → (parseFieldDescriptor (cq_9.2.1 k).2.2.1 = some (ty0 (9 : Nat) k) ∧ ty0 (9 : Nat) k ≠ .float ∧ ty0 (9 : Nat) k ≠ .double) := by decide +kernel
theorem ins_9 : Cond.instantiable cq_9.1 cq_9.2.2 ∈ tb0 := (tb2 113 rfl rfl)
theorem un_9 : ∀ a, a < cq_9.2.2 → ∀ b, b < cq_9.2.2 → a ≠ b → (cq_9.2.1 a).2.1 ≠ (cq_9.2.1 b).2.1 := by decide +kernel
theorem uw_10 : ∀ w ∈ u_ws cq_10.1 cq_10.2.1 cq_10.2.2, w ∈ tb0 := tbl [488, 490, 492, 494, 496] (by decide +kernel)
theorem ut_10 : ∀ k, k < cq_10.2.2 → (parseFieldDescriptor (cq_10.2.1 k).2.2.1 = some (ty0 (10 : Nat) k) ∧ ty0 (10 : Nat) k ≠ .float ∧ ty0 (10 : Nat) k ≠ .double) := by decide +kernel
theorem ins_10 : Cond.instantiable cq_10.1 cq_10.2.2 ∈ tb0 := (tb2 147 rfl rfl)
theorem un_10 : ∀ a, a < cq_10.2.2 → ∀ b, b < cq_10.2.2 → a ≠ b → (cq_10.2.1 a).2.1 ≠ (cq_10.2.1 b).2.1 := by decide +kernel
theorem uw_11 : ∀ w ∈ u_ws cq_11.1 cq_11.2.1 cq_11.2.2, w ∈ tb0 := tbl [1133, 1135, 1137, 1139, 1141, 1143, 1145, 1147, 1149, 1151, 1153, 1155, 1157, 1159, 1161, 1163, 1165, 1167, 1169, 1171, 1173, 1175, 1177, 1179, 1181, 1183, 1185, 1187, 1189, 1191, 1193, 1195, 1197, 1199, 1201, 1203, 1205, 1207, 1209, 1211, 1213, 1215, 1217, 1219, 1221, 1223, 1225, 1227, 1229, 1231, 1233, 1235, 1237, 1239, 1241, 1243, 1245, 1247, 1249, 1251, 1253, 1255, 1257, 1259, 1261, 1263, 1265, 1267, 1269, 1271, 1273, 1275, 1277, 1279, 1281, 1283] (by decide +kernel)
theorem ut_11 : ∀ k, k < cq_11.2.2 → (parseFieldDescriptor (cq_11.2.1 k).2.2.1 = some (ty0 (11 : Nat) k) ∧ ty0 (11 : Nat) k ≠ .float ∧ ty0 (11 : Nat) k ≠ .double) := by decide +kernel
theorem ins_11 : Cond.instantiable cq_11.1 cq_11.2.2 ∈ tb0 := (tb5 8 rfl rfl)
theorem un_11 : ∀ a, a < cq_11.2.2 → ∀ b, b < cq_11.2.2 → a ≠ b → (cq_11.2.1 a).2.1 ≠ (cq_11.2.1 b).2.1 := by decide +kernel
end
section
def mt_0 : rf_Mt := (x, code, maxLocals, ret)
def cd_0 : List (Nat × rf_I × Nat) := [(0, (.new 7, [(0, 0)]), 0), (3, (.dup, []), 0), (4, (.invokespecial 9, [(0, 0), (0, 1)]), 1), (7, (.astore_n 1, []), 0), (8, (.new 10, [(0, 11)]), 2), (11, (.dup, []), 0), (12, (.invokespecial 12, [(0, 0), (0, 127)]), 3), (15, (.astore_n 2, []), 0), (16, (.iconst 0, []), 0), (17, (.istore_n 3, []), 0), (18, (.iload_n 3, []), 0), (19, (.aload_n 0, []), 0), (20, (.arraylength, []), 0), (21, (.bipush 6, []), 0), (23, (.isub, []), 0), (24, (.if_icmp .gt 653, [(0, 677)]), 0), (27, (.aload_n 0, []), 0), (28, (.iload_n 3, []), 0), (29, (.iaload, []), 0), (30, (.bipush 31, []), 0), (32, (.iand, []), 0), (33, (.tableswitch 638 0 18 #[91, 154, 177, 190, 203, 236, 299, 322, 345, 378, 401, 464, 497, 530, 543, 556, 589, 612, 625], [(0, 671), (0, 124), (1, 187), (2, 210), (3, 223), (4, 236), (5, 269), (6, 332), (7, 355), (8, 378), (9, 411), (10, 434), (11, 497), (12, 530), (13, 563), (14, 576), (15, 589), (16, 622), (17, 645), (18, 658)]), 0), (124, (.aload_n 1, []), 0), (125, (.aload_n 0, []), 0), (126, (.iload_n 3, []), 0), (127, (.iconst 1, []), 0), (128, (.iadd, []), 0), (129, (.iaload, []), 0), (130, (.aload_n 0, []), 0), (131, (.iload_n 3, []), 0), (132, (.iconst 2, []), 0), (133, (.iadd, []), 0), (134, (.iaload, []), 0), (135, (.aload_n 0, []), 0), (136, (.iload_n 3, []), 0), (137, (.iconst 3, []), 0), (138, (.iadd, []), 0), (139, (.iaload, []), 0), (140, (.aload_n 0, []), 0), (141, (.iload_n 3, []), 0), (142, (.iconst 4, []), 0), (143, (.iadd, []), 0), (144, (.iaload, []), 0), (145, (.aload_n 0, []), 0), (146, (.iload_n 3, []), 0), (147, (.iconst 5, []), 0), (148, (.iadd, []), 0), (149, (.iaload, []), 0), (150, (.invokevirtual 13, [(0, 5), (0, 13)]), 4), (153, (.aload_n 2, []), 0), (154, (.aload_n 0, []), 0), (155, (.iload_n 3, []), 0), (156, (.iconst 1, []), 0), (157, (.iadd, []), 0), (158, (.iaload, []), 0), (159, (.aload_n 0, []), 0), (160, (.iload_n 3, []), 0), (161, (.iconst 2, []), 0), (162, (.iadd, []), 0), (163, (.iaload, []), 0), (164, (.aload_n 0, []), 0), (165, (.iload_n 3, []), 0), (166, (.iconst 3, []), 0), (167, (.iadd, []), 0), (168, (.iaload, []), 0), (169, (.aload_n 0, []), 0), (170, (.iload_n 3, []), 0), (171, (.iconst 4, []), 0), (172, (.iadd, []), 0), (173, (.iaload, []), 0), (174, (.aload_n 0, []), 0), (175, (.iload_n 3, []), 0), (176, (.iconst 5, []), 0), (177, (.iadd, []), 0), (178, (.iaload, []), 0), (179, (.invokevirtual 17, [(0, 5), (11, 128)]), 5), (182, (.if_icmp .eq 489, [(0, 671)]), 0), (185, (.iconst 0, []), 0), (186, (.ireturn, []), 0), (187, (.aload_n 1, []), 0), (188, (.aload_n 0, []), 0), (189, (.iload_n 3, []), 0), (190, (.iconst 1, []), 0), (191, (.iadd, []), 0), (192, (.iaload, []), 0), (193, (.invokevirtual 18, [(0, 1), (0, 15)]), 6), (196, (.pop, []), 0), (197, (.aload_n 2, []), 0), (198, (.aload_n 0, []), 0), (199, (.iload_n 3, []), 0), (200, (.iconst 1, []), 0), (201, (.iadd, []), 0), (202, (.iaload, []), 0), (203, (.invokevirtual 22, [(0, 1), (11, 129)]), 7), (206, (.pop, []), 0), (207, (.goto 464, [(0, 671)]), 0), (210, (.aload_n 1, []), 0), (211, (.invokevirtual 23, [(0, 0), (0, 16)]), 8), (214, (.pop, []), 0), (215, (.aload_n 2, []), 0), (216, (.invokevirtual 27, [(0, 0), (11, 130)]), 9), (219, (.pop, []), 0), (220, (.goto 451, [(0, 671)]), 0), (223, (.aload_n 1, []), 0), (224, (.invokevirtual 28, [(0, 0), (0, 56)]), 10), (227, (.pop, []), 0), (228, (.aload_n 2, []), 0), (229, (.invokevirtual 31, [(0, 0), (11, 152)]), 11), (232, (.pop, []), 0), (233, (.goto 438, [(0, 671)]), 0), (236, (.aload_n 1, []), 0), (237, (.aload_n 0, []), 0), (238, (.iload_n 3, []), 0), (239, (.iconst 1, []), 0), (240, (.iadd, []), 0), (241, (.iaload, []), 0), (242, (.aload_n 0, []), 0), (243, (.iload_n 3, []), 0), (244, (.iconst 2, []), 0), (245, (.iadd, []), 0), (246, (.iaload, []), 0), (247, (.invokevirtual 32, [(0, 2), (0, 57)]), 12), (250, (.pop, []), 0), (251, (.aload_n 2, []), 0), (252, (.aload_n 0, []), 0), (253, (.iload_n 3, []), 0), (254, (.iconst 1, []), 0), (255, (.iadd, []), 0), (256, (.iaload, []), 0), (257, (.aload_n 0, []), 0), (258, (.iload_n 3, []), 0), (259, (.iconst 2, []), 0), (260, (.iadd, []), 0), (261, (.iaload, []), 0), (262, (.invokevirtual 36, [(0, 2), (11, 153)]), 13), (265, (.pop, []), 0), (266, (.goto 405, [(0, 671)]), 0), (269, (.aload_n 1, []), 0), (270, (.aload_n 0, []), 0), (271, (.iload_n 3, []), 0), (272, (.iconst 1, []), 0), (273, (.iadd, []), 0), (274, (.iaload, []), 0), (275, (.aload_n 0, []), 0), (276, (.iload_n 3, []), 0), (277, (.iconst 2, []), 0), (278, (.iadd, []), 0), (279, (.iaload, []), 0), (280, (.i2l, []), 0), (281, (.bipush 32, []), 0), (283, (.lshl, []), 0), (284, (.aload_n 0, []), 0), (285, (.iload_n 3, []), 0), (286, (.iconst 3, []), 0), (287, (.iadd, []), 0), (288, (.iaload, []), 0), (289, (.i2l, []), 0), (290, (.ldc2_w 37, [(1, 4294967295)]), 14), (293, (.land, []), 0), (294, (.lor, []), 0), (295, (.invokevirtual 39, [(0, 2), (0, 59)]), 15), (298, (.pop, []), 0), (299, (.aload_n 2, []), 0), (300, (.aload_n 0, []), 0), (301, (.iload_n 3, []), 0), (302, (.iconst 1, []), 0), (303, (.iadd, []), 0), (304, (.iaload, []), 0), (305, (.aload_n 0, []), 0), (306, (.iload_n 3, []), 0), (307, (.iconst 2, []), 0), (308, (.iadd, []), 0), (309, (.iaload, []), 0), (310, (.i2l, []), 0), (311, (.bipush 32, []), 0), (313, (.lshl, []), 0), (314, (.aload_n 0, []), 0), (315, (.iload_n 3, []), 0), (316, (.iconst 3, []), 0), (317, (.iadd, []), 0), (318, (.iaload, []), 0), (319, (.i2l, []), 0), (320, (.ldc2_w 37, [(1, 4294967295)]), 14), (323, (.land, []), 0), (324, (.lor, []), 0), (325, (.invokevirtual 43, [(0, 2), (11, 184)]), 16), (328, (.pop, []), 0), (329, (.goto 342, [(0, 671)]), 0), (332, (.aload_n 1, []), 0), (333, (.aload_n 0, []), 0), (334, (.iload_n 3, []), 0), (335, (.iconst 1, []), 0), (336, (.iadd, []), 0), (337, (.iaload, []), 0), (338, (.invokevirtual 44, [(0, 1), (0, 79)]), 17), (341, (.pop2, []), 0), (342, (.aload_n 2, []), 0), (343, (.aload_n 0, []), 0), (344, (.iload_n 3, []), 0), (345, (.iconst 1, []), 0), (346, (.iadd, []), 0), (347, (.iaload, []), 0), (348, (.invokevirtual 48, [(0, 1), (11, 185)]), 18), (351, (.pop2, []), 0), (352, (.goto 319, [(0, 671)]), 0), (355, (.aload_n 1, []), 0), (356, (.aload_n 0, []), 0), (357, (.iload_n 3, []), 0), (358, (.iconst 1, []), 0), (359, (.iadd, []), 0), (360, (.iaload, []), 0), (361, (.invokevirtual 49, [(0, 1), (0, 80)]), 19), (364, (.pop, []), 0), (365, (.aload_n 2, []), 0), (366, (.aload_n 0, []), 0), (367, (.iload_n 3, []), 0), (368, (.iconst 1, []), 0), (369, (.iadd, []), 0), (370, (.iaload, []), 0), (371, (.invokevirtual 52, [(0, 1), (11, 186)]), 20), (374, (.pop, []), 0), (375, (.goto 296, [(0, 671)]), 0), (378, (.aload_n 1, []), 0), (379, (.aload_n 0, []), 0), (380, (.iload_n 3, []), 0), (381, (.iconst 1, []), 0), (382, (.iadd, []), 0), (383, (.iaload, []), 0), (384, (.aload_n 0, []), 0), (385, (.iload_n 3, []), 0), (386, (.iconst 2, []), 0), (387, (.iadd, []), 0), (388, (.iaload, []), 0), (389, (.invokevirtual 53, [(0, 2), (0, 81)]), 21), (392, (.pop, []), 0), (393, (.aload_n 2, []), 0), (394, (.aload_n 0, []), 0), (395, (.iload_n 3, []), 0), (396, (.iconst 1, []), 0), (397, (.iadd, []), 0), (398, (.iaload, []), 0), (399, (.aload_n 0, []), 0), (400, (.iload_n 3, []), 0), (401, (.iconst 2, []), 0), (402, (.iadd, []), 0), (403, (.iaload, []), 0), (404, (.invokevirtual 56, [(0, 2), (11, 187)]), 22), (407, (.pop, []), 0), (408, (.goto 263, [(0, 671)]), 0), (411, (.aload_n 1, []), 0), (412, (.aload_n 0, []), 0), (413, (.iload_n 3, []), 0), (414, (.iconst 1, []), 0), (415, (.iadd, []), 0), (416, (.iaload, []), 0), (417, (.invokevirtual 57, [(0, 1), (0, 84)]), 23), (420, (.pop, []), 0), (421, (.aload_n 2, []), 0), (422, (.aload_n 0, []), 0), (423, (.iload_n 3, []), 0), (424, (.iconst 1, []), 0), (425, (.iadd, []), 0), (426, (.iaload, []), 0), (427, (.invokevirtual 60, [(0, 1), (11, 154)]), 24), (430, (.pop, []), 0), (431, (.goto 240, [(0, 671)]), 0), (434, (.aload_n 1, []), 0), (435, (.aload_n 0, []), 0), (436, (.iload_n 3, []), 0), (437, (.iconst 1, []), 0), (438, (.iadd, []), 0), (439, (.iaload, []), 0), (440, (.i2l, []), 0), (441, (.bipush 32, []), 0), (443, (.lshl, []), 0), (444, (.aload_n 0, []), 0), (445, (.iload_n 3, []), 0), (446, (.iconst 2, []), 0), (447, (.iadd, []), 0), (448, (.iaload, []), 0), (449, (.i2l, []), 0), (450, (.ldc2_w 37, [(1, 4294967295)]), 14), (453, (.land, []), 0), (454, (.lor, []), 0), (455, (.aload_n 0, []), 0), (456, (.iload_n 3, []), 0), (457, (.iconst 3, []), 0), (458, (.iadd, []), 0), (459, (.iaload, []), 0), (460, (.invokevirtual 61, [(0, 2), (0, 108)]), 25), (463, (.pop, []), 0), (464, (.aload_n 2, []), 0), (465, (.aload_n 0, []), 0), (466, (.iload_n 3, []), 0), (467, (.iconst 1, []), 0), (468, (.iadd, []), 0), (469, (.iaload, []), 0), (470, (.i2l, []), 0), (471, (.bipush 32, []), 0), (473, (.lshl, []), 0), (474, (.aload_n 0, []), 0), (475, (.iload_n 3, []), 0), (476, (.iconst 2, []), 0), (477, (.iadd, []), 0), (478, (.iaload, []), 0), (479, (.i2l, []), 0), (480, (.ldc2_w 37, [(1, 4294967295)]), 14), (483, (.land, []), 0), (484, (.lor, []), 0), (485, (.aload_n 0, []), 0), (486, (.iload_n 3, []), 0), (487, (.iconst 3, []), 0), (488, (.iadd, []), 0), (489, (.iaload, []), 0), (490, (.invokevirtual 65, [(0, 2), (11, 183)]), 26), (493, (.pop, []), 0), (494, (.goto 177, [(0, 671)]), 0), (497, (.aload_n 1, []), 0), (498, (.aload_n 0, []), 0), (499, (.iload_n 3, []), 0), (500, (.iconst 1, []), 0), (501, (.iadd, []), 0), (502, (.iaload, []), 0), (503, (.aload_n 0, []), 0), (504, (.iload_n 3, []), 0), (505, (.iconst 2, []), 0), (506, (.iadd, []), 0), (507, (.iaload, []), 0), (508, (.invokevirtual 66, [(0, 2), (0, 109)]), 27), (511, (.pop, []), 0), (512, (.aload_n 2, []), 0), (513, (.aload_n 0, []), 0), (514, (.iload_n 3, []), 0), (515, (.iconst 1, []), 0), (516, (.iadd, []), 0), (517, (.iaload, []), 0), (518, (.aload_n 0, []), 0), (519, (.iload_n 3, []), 0), (520, (.iconst 2, []), 0), (521, (.iadd, []), 0), (522, (.iaload, []), 0), (523, (.invokevirtual 69, [(0, 2), (11, 188)]), 28), (526, (.pop, []), 0), (527, (.goto 144, [(0, 671)]), 0), (530, (.aload_n 1, []), 0), (531, (.aload_n 0, []), 0), (532, (.iload_n 3, []), 0), (533, (.iconst 1, []), 0), (534, (.iadd, []), 0), (535, (.iaload, []), 0), (536, (.aload_n 0, []), 0), (537, (.iload_n 3, []), 0), (538, (.iconst 2, []), 0), (539, (.iadd, []), 0), (540, (.iaload, []), 0), (541, (.invokevirtual 70, [(0, 2), (0, 111)]), 29), (544, (.pop2, []), 0), (545, (.aload_n 2, []), 0), (546, (.aload_n 0, []), 0), (547, (.iload_n 3, []), 0), (548, (.iconst 1, []), 0), (549, (.iadd, []), 0), (550, (.iaload, []), 0), (551, (.aload_n 0, []), 0), (552, (.iload_n 3, []), 0), (553, (.iconst 2, []), 0), (554, (.iadd, []), 0), (555, (.iaload, []), 0), (556, (.invokevirtual 74, [(0, 2), (11, 189)]), 30), (559, (.pop2, []), 0), (560, (.goto 111, [(0, 671)]), 0), (563, (.aload_n 1, []), 0), (564, (.invokevirtual 75, [(0, 0), (0, 112)]), 31), (567, (.pop, []), 0), (568, (.aload_n 2, []), 0), (569, (.invokevirtual 78, [(0, 0), (11, 190)]), 32), (572, (.pop, []), 0), (573, (.goto 98, [(0, 671)]), 0), (576, (.aload_n 1, []), 0), (577, (.invokevirtual 79, [(0, 0), (0, 113)]), 33), (580, (.pop, []), 0), (581, (.aload_n 2, []), 0), (582, (.invokevirtual 82, [(0, 0), (11, 191)]), 34), (585, (.pop, []), 0), (586, (.goto 85, [(0, 671)]), 0), (589, (.aload_n 1, []), 0), (590, (.aload_n 0, []), 0), (591, (.iload_n 3, []), 0), (592, (.iconst 1, []), 0), (593, (.iadd, []), 0), (594, (.iaload, []), 0), (595, (.aload_n 0, []), 0), (596, (.iload_n 3, []), 0), (597, (.iconst 2, []), 0), (598, (.iadd, []), 0), (599, (.iaload, []), 0), (600, (.invokevirtual 83, [(0, 2), (0, 114)]), 35), (603, (.pop, []), 0), (604, (.aload_n 2, []), 0), (605, (.aload_n 0, []), 0), (606, (.iload_n 3, []), 0), (607, (.iconst 1, []), 0), (608, (.iadd, []), 0), (609, (.iaload, []), 0), (610, (.aload_n 0, []), 0), (611, (.iload_n 3, []), 0), (612, (.iconst 2, []), 0), (613, (.iadd, []), 0), (614, (.iaload, []), 0), (615, (.invokevirtual 86, [(0, 2), (11, 192)]), 36), (618, (.pop, []), 0), (619, (.goto 52, [(0, 671)]), 0), (622, (.aload_n 1, []), 0), (623, (.aload_n 0, []), 0), (624, (.iload_n 3, []), 0), (625, (.iconst 1, []), 0), (626, (.iadd, []), 0), (627, (.iaload, []), 0), (628, (.invokevirtual 87, [(0, 1), (0, 117)]), 37), (631, (.pop2, []), 0), (632, (.aload_n 2, []), 0), (633, (.aload_n 0, []), 0), (634, (.iload_n 3, []), 0), (635, (.iconst 1, []), 0), (636, (.iadd, []), 0), (637, (.iaload, []), 0), (638, (.invokevirtual 90, [(0, 1), (11, 193)]), 38), (641, (.pop2, []), 0), (642, (.goto 29, [(0, 671)]), 0), (645, (.aload_n 1, []), 0), (646, (.invokevirtual 91, [(0, 0), (0, 118)]), 39), (649, (.pop, []), 0), (650, (.aload_n 2, []), 0), (651, (.invokevirtual 94, [(0, 0), (11, 194)]), 40), (654, (.pop, []), 0), (655, (.goto 16, [(0, 671)]), 0), (658, (.aload_n 1, []), 0), (659, (.invokevirtual 95, [(0, 0), (0, 122)]), 41), (662, (.pop, []), 0), (663, (.aload_n 2, []), 0), (664, (.invokevirtual 98, [(0, 0), (11, 197)]), 42), (667, (.pop, []), 0), (668, (.goto 3, [(0, 671)]), 0), (671, (.iinc 3 6, []), 0), (674, (.goto (-656), [(0, 18)]), 0), (677, (.iconst 1, []), 0), (678, (.ireturn, []), 0)]
def mi_0 : rf_E1 := (mt_0, 0, cd_0)
def mt_1 : rf_Mt := (⟨"MemoryTransactions", "<init>", "()V"⟩, prog_1_method_1_code, 2, (Option.none : Option Jvm.ClassFile.FieldType))
def cd_1 : List (Nat × rf_I × Nat) := [(0, (.aload_n 0, []), 0), (1, (.invokespecial 3, [(10, 0)]), 0), (4, (.aload_n 0, []), 0), (5, (.sipush 800, []), 0), (8, (.newarray .int, []), 1), (10, (.putfield 9, [(0, 0)]), 2), (13, (.aload_n 0, []), 0), (14, (.iconst 0, []), 0), (15, (.putfield 13, [(0, 1)]), 3), (18, (.aload_n 0, []), 0), (19, (.bipush 12, []), 0), (21, (.anewarray 17, [(0, 1)]), 4), (24, (.putfield 19, [(0, 2)]), 5), (27, (.iconst 0, []), 0), (28, (.istore_n 1, []), 0), (29, (.iload_n 1, []), 0), (30, (.bipush 12, []), 0), (32, (.if_icmp .ge 22, [(0, 54)]), 0), (35, (.aload_n 0, []), 0), (36, (.getfield 19, [(0, 2)]), 6), (39, (.iload_n 1, []), 0), (40, (.new 17, [(0, 1)]), 7), (43, (.dup, []), 0), (44, (.invokespecial 23, [(0, 0), (0, 2)]), 8), (47, (.aastore, []), 0), (48, (.iinc 1 1, []), 0), (51, (.goto (-22), [(0, 29)]), 0), (54, (.aload_n 0, []), 0), (55, (.iconst 0, []), 0), (56, (.putfield 24, [(0, 3)]), 9), (59, (.aload_n 0, []), 0), (60, (.iconst (-1), []), 0), (61, (.putfield 27, [(0, 4)]), 10), (64, (.aload_n 0, []), 0), (65, (.new 30, [(0, 2)]), 11), (68, (.dup, []), 0), (69, (.invokespecial 32, [(0, 0), (0, 3)]), 12), (72, (.putfield 33, [(0, 5)]), 13), (75, (.aload_n 0, []), 0), (76, (.new 37, [(0, 4)]), 14), (79, (.dup, []), 0), (80, (.invokespecial 39, [(0, 0), (0, 5)]), 15), (83, (.putfield 40, [(0, 6)]), 16), (86, (.aload_n 0, []), 0), (87, (.bipush 8, []), 0), (89, (.anewarray 44, [(0, 6)]), 17), (92, (.putfield 46, [(0, 7)]), 18), (95, (.iconst 0, []), 0), (96, (.istore_n 1, []), 0), (97, (.iload_n 1, []), 0), (98, (.bipush 8, []), 0), (100, (.if_icmp .ge 32, [(0, 132)]), 0), (103, (.aload_n 0, []), 0), (104, (.getfield 46, [(0, 7)]), 19), (107, (.iload_n 1, []), 0), (108, (.new 44, [(0, 6)]), 20), (111, (.dup, []), 0), (112, (.aload_n 0, []), 0), (113, (.getfield 40, [(0, 6)]), 21), (116, (.aload_n 0, []), 0), (117, (.getfield 19, [(0, 2)]), 6), (120, (.iconst 0, []), 0), (121, (.aaload, []), 0), (122, (.invokespecial 50, [(0, 2), (0, 8)]), 22), (125, (.aastore, []), 0), (126, (.iinc 1 1, []), 0), (129, (.goto (-32), [(0, 97)]), 0), (132, (.aload_n 0, []), 0), (133, (.new 53, [(0, 9)]), 23), (136, (.dup, []), 0), (137, (.invokespecial 55, [(0, 0), (0, 11)]), 24), (140, (.putfield 56, [(0, 8)]), 25), (143, (.aload_n 0, []), 0), (144, (.new 60, [(0, 10)]), 26), (147, (.dup, []), 0), (148, (.aload_n 0, []), 0), (149, (.getfield 19, [(0, 2)]), 6), (152, (.invokespecial 62, [(0, 1), (0, 12)]), 27), (155, (.putfield 65, [(0, 9)]), 28), (158, (.return_, []), 0)]
def mi_1 : rf_E1 := (mt_1, 1, cd_1)
def mt_2 : rf_Mt := (⟨"MemoryTransactions$Program", "<init>", "()V"⟩, prog_8_method_1_code, 1, (Option.none : Option Jvm.ClassFile.FieldType))
def cd_2 : List (Nat × rf_I × Nat) := [(0, (.aload_n 0, []), 0), (1, (.invokespecial 3, [(10, 0)]), 0), (4, (.aload_n 0, []), 0), (5, (.bipush 40, []), 0), (7, (.newarray .int, []), 1), (9, (.putfield 9, [(1, 5)]), 2), (12, (.aload_n 0, []), 0), (13, (.bipush 40, []), 0), (15, (.newarray .int, []), 1), (17, (.putfield 15, [(1, 6)]), 3), (20, (.aload_n 0, []), 0), (21, (.bipush 40, []), 0), (23, (.newarray .int, []), 1), (25, (.putfield 18, [(1, 7)]), 4), (28, (.aload_n 0, []), 0), (29, (.bipush 40, []), 0), (31, (.newarray .int, []), 1), (33, (.putfield 21, [(1, 8)]), 5), (36, (.aload_n 0, []), 0), (37, (.bipush 40, []), 0), (39, (.newarray .int, []), 1), (41, (.putfield 24, [(1, 9)]), 6), (44, (.aload_n 0, []), 0), (45, (.bipush 40, []), 0), (47, (.newarray .int, []), 1), (49, (.putfield 27, [(1, 10)]), 7), (52, (.aload_n 0, []), 0), (53, (.bipush 40, []), 0), (55, (.newarray .int, []), 1), (57, (.putfield 30, [(1, 11)]), 8), (60, (.aload_n 0, []), 0), (61, (.bipush 40, []), 0), (63, (.newarray .int, []), 1), (65, (.putfield 33, [(1, 12)]), 9), (68, (.aload_n 0, []), 0), (69, (.bipush 40, []), 0), (71, (.newarray .int, []), 1), (73, (.putfield 36, [(1, 13)]), 10), (76, (.aload_n 0, []), 0), (77, (.sipush 160, []), 0), (80, (.newarray .int, []), 1), (82, (.putfield 39, [(1, 14)]), 11), (85, (.aload_n 0, []), 0), (86, (.sipush 160, []), 0), (89, (.newarray .int, []), 1), (91, (.putfield 42, [(1, 15)]), 12), (94, (.return_, []), 0)]
def mi_2 : rf_E1 := (mt_2, 2, cd_2)
def mt_3 : rf_Mt := (⟨"MemoryTransactions$Parser", "<init>", "()V"⟩, prog_7_method_1_code, 1, (Option.none : Option Jvm.ClassFile.FieldType))
def cd_3 : List (Nat × rf_I × Nat) := [(0, (.aload_n 0, []), 0), (1, (.invokespecial 3, [(10, 0)]), 0), (4, (.aload_n 0, []), 0), (5, (.new 9, [(0, 3)]), 1), (8, (.dup, []), 0), (9, (.invokespecial 11, [(0, 0), (0, 4)]), 2), (12, (.putfield 12, [(2, 0)]), 3), (15, (.aload_n 0, []), 0), (16, (.new 18, [(0, 1)]), 4), (19, (.dup, []), 0), (20, (.invokespecial 20, [(0, 0), (0, 2)]), 5), (23, (.putfield 21, [(2, 1)]), 6), (26, (.return_, []), 0)]
def mi_3 : rf_E1 := (mt_3, 3, cd_3)
def mt_4 : rf_Mt := (⟨"MemoryTransactions$Scanner", "<init>", "()V"⟩, prog_11_method_1_code, 1, (Option.none : Option Jvm.ClassFile.FieldType))
def cd_4 : List (Nat × rf_I × Nat) := [(0, (.aload_n 0, []), 0), (1, (.invokespecial 3, [(10, 0)]), 0), (4, (.aload_n 0, []), 0), (5, (.sipush 801, []), 0), (8, (.newarray .int, []), 1), (10, (.putfield 9, [(3, 0)]), 2), (13, (.aload_n 0, []), 0), (14, (.sipush 801, []), 0), (17, (.newarray .int, []), 1), (19, (.putfield 15, [(3, 1)]), 3), (22, (.aload_n 0, []), 0), (23, (.sipush 801, []), 0), (26, (.newarray .int, []), 1), (28, (.putfield 18, [(3, 2)]), 4), (31, (.aload_n 0, []), 0), (32, (.iconst 0, []), 0), (33, (.newarray .int, []), 1), (35, (.putfield 21, [(3, 4)]), 5), (38, (.return_, []), 0)]
def mi_4 : rf_E1 := (mt_4, 4, cd_4)
def mt_5 : rf_Mt := (⟨"MemoryTransactions$Store", "<init>", "()V"⟩, prog_12_method_1_code, 1, (Option.none : Option Jvm.ClassFile.FieldType))
def cd_5 : List (Nat × rf_I × Nat) := [(0, (.aload_n 0, []), 0), (1, (.invokespecial 3, [(0, 0), (0, 6)]), 0), (4, (.aload_n 0, []), 0), (5, (.bipush 16, []), 0), (7, (.newarray .long, []), 1), (9, (.putfield 9, [(4, 0)]), 2), (12, (.aload_n 0, []), 0), (13, (.bipush 16, []), 0), (15, (.newarray .int, []), 3), (17, (.putfield 15, [(4, 1)]), 4), (20, (.aload_n 0, []), 0), (21, (.bipush 32, []), 0), (23, (.anewarray 19, [(0, 1)]), 5), (26, (.putfield 21, [(4, 3)]), 6), (29, (.aload_n 0, []), 0), (30, (.bipush 32, []), 0), (32, (.newarray .int, []), 3), (34, (.putfield 25, [(4, 4)]), 7), (37, (.aload_n 0, []), 0), (38, (.bipush 16, []), 0), (40, (.newarray .long, []), 1), (42, (.putfield 28, [(4, 5)]), 8), (45, (.aload_n 0, []), 0), (46, (.new 31, [(0, 5)]), 9), (49, (.dup, []), 0), (50, (.invokespecial 33, [(0, 0), (0, 7)]), 10), (53, (.putfield 34, [(4, 6)]), 11), (56, (.return_, []), 0)]
def mi_5 : rf_E1 := (mt_5, 5, cd_5)
def mt_6 : rf_Mt := (⟨"MemoryTransactions$Letters", "<init>", "()V"⟩, prog_6_method_1_code, 1, (Option.none : Option Jvm.ClassFile.FieldType))
def cd_6 : List (Nat × rf_I × Nat) := [(0, (.aload_n 0, []), 0), (1, (.invokespecial 1, [(10, 0)]), 0), (4, (.return_, []), 0)]
def mi_6 : rf_E1 := (mt_6, 6, cd_6)
def mt_7 : rf_Mt := (⟨"MemoryTransactions$Calculator", "<init>", "()V"⟩, prog_2_method_1_code, 1, (Option.none : Option Jvm.ClassFile.FieldType))
def cd_7 : List (Nat × rf_I × Nat) := [(0, (.aload_n 0, []), 0), (1, (.invokespecial 3, [(10, 0)]), 0), (4, (.aload_n 0, []), 0), (5, (.bipush 60, []), 0), (7, (.newarray .long, []), 1), (9, (.putfield 9, [(5, 0)]), 2), (12, (.return_, []), 0)]
def mi_7 : rf_E1 := (mt_7, 7, cd_7)
def mt_8 : rf_Mt := (⟨"MemoryTransactions$Client", "<init>", "(LMemoryTransactions$Store;LMemoryTransactions$Program;)V"⟩, prog_3_method_1_code, 3, (Option.none : Option Jvm.ClassFile.FieldType))
def cd_8 : List (Nat × rf_I × Nat) := [(0, (.aload_n 0, []), 0), (1, (.invokespecial 3, [(10, 0)]), 0), (4, (.aload_n 0, []), 0), (5, (.bipush 16, []), 0), (7, (.newarray .int, []), 1), (9, (.putfield 9, [(6, 3)]), 2), (12, (.aload_n 0, []), 0), (13, (.bipush 16, []), 0), (15, (.newarray .int, []), 1), (17, (.putfield 15, [(6, 7)]), 3), (20, (.aload_n 0, []), 0), (21, (.new 18, [(0, 7)]), 4), (24, (.dup, []), 0), (25, (.aload_n 1, []), 0), (26, (.aload_n 2, []), 0), (27, (.invokespecial 20, [(0, 2), (0, 9)]), 5), (30, (.putfield 23, [(6, 4)]), 6), (33, (.return_, []), 0)]
def mi_8 : rf_E1 := (mt_8, 8, cd_8)
def mt_9 : rf_Mt := (⟨"MemoryTransactions$Run", "<init>", "(LMemoryTransactions$Store;LMemoryTransactions$Program;)V"⟩, prog_10_method_1_code, 3, (Option.none : Option Jvm.ClassFile.FieldType))
def cd_9 : List (Nat × rf_I × Nat) := [(0, (.aload_n 0, []), 0), (1, (.invokespecial 3, [(0, 0), (0, 6)]), 0), (4, (.aload_n 0, []), 0), (5, (.bipush 16, []), 0), (7, (.newarray .int, []), 1), (9, (.putfield 9, [(7, 4)]), 2), (12, (.aload_n 0, []), 0), (13, (.new 15, [(0, 8)]), 3), (16, (.dup, []), 0), (17, (.invokespecial 17, [(0, 0), (0, 10)]), 4), (20, (.putfield 18, [(7, 5)]), 5), (23, (.aload_n 0, []), 0), (24, (.bipush 16, []), 0), (26, (.newarray .long, []), 6), (28, (.putfield 22, [(7, 7)]), 7), (31, (.aload_n 0, []), 0), (32, (.new 26, [(0, 5)]), 8), (35, (.dup, []), 0), (36, (.invokespecial 28, [(0, 0), (0, 7)]), 9), (39, (.putfield 29, [(7, 9)]), 10), (42, (.aload_n 0, []), 0), (43, (.aload_n 1, []), 0), (44, (.putfield 33, [(7, 8)]), 11), (47, (.aload_n 0, []), 0), (48, (.aload_n 2, []), 0), (49, (.putfield 37, [(7, 0)]), 12), (52, (.return_, []), 0)]
def mi_9 : rf_E1 := (mt_9, 9, cd_9)
def mt_10 : rf_Mt := (⟨"MemoryTransactions$Draft", "<init>", "()V"⟩, prog_4_method_1_code, 1, (Option.none : Option Jvm.ClassFile.FieldType))
def cd_10 : List (Nat × rf_I × Nat) := [(0, (.aload_n 0, []), 0), (1, (.invokespecial 3, [(10, 0)]), 0), (4, (.aload_n 0, []), 0), (5, (.bipush 16, []), 0), (7, (.newarray .long, []), 1), (9, (.putfield 9, [(8, 1)]), 2), (12, (.aload_n 0, []), 0), (13, (.bipush 10, []), 0), (15, (.newarray .long, []), 1), (17, (.putfield 15, [(8, 2)]), 3), (20, (.aload_n 0, []), 0), (21, (.sipush 300, []), 0), (24, (.newarray .int, []), 4), (26, (.putfield 18, [(8, 4)]), 5), (29, (.aload_n 0, []), 0), (30, (.bipush 8, []), 0), (32, (.newarray .int, []), 4), (34, (.putfield 22, [(8, 5)]), 6), (37, (.aload_n 0, []), 0), (38, (.sipush 128, []), 0), (41, (.newarray .long, []), 1), (43, (.putfield 25, [(8, 6)]), 7), (46, (.aload_n 0, []), 0), (47, (.bipush 80, []), 0), (49, (.newarray .long, []), 1), (51, (.putfield 28, [(8, 7)]), 8), (54, (.aload_n 0, []), 0), (55, (.bipush 8, []), 0), (57, (.newarray .int, []), 4), (59, (.putfield 31, [(8, 8)]), 9), (62, (.return_, []), 0)]
def mi_10 : rf_E1 := (mt_10, 10, cd_10)
def mt_11 : rf_Mt := (⟨"MemoryTransactions$Journal", "<init>", "()V"⟩, prog_5_method_1_code, 1, (Option.none : Option Jvm.ClassFile.FieldType))
def cd_11 : List (Nat × rf_I × Nat) := [(0, (.aload_n 0, []), 0), (1, (.invokespecial 3, [(10, 0)]), 0), (4, (.aload_n 0, []), 0), (5, (.sipush 300, []), 0), (8, (.newarray .int, []), 1), (10, (.putfield 9, [(9, 1)]), 2), (13, (.aload_n 0, []), 0), (14, (.sipush 300, []), 0), (17, (.newarray .int, []), 1), (19, (.putfield 15, [(9, 2)]), 3), (22, (.aload_n 0, []), 0), (23, (.sipush 300, []), 0), (26, (.newarray .int, []), 1), (28, (.putfield 18, [(9, 3)]), 4), (31, (.aload_n 0, []), 0), (32, (.sipush 300, []), 0), (35, (.newarray .int, []), 1), (37, (.putfield 21, [(9, 4)]), 5), (40, (.aload_n 0, []), 0), (41, (.sipush 300, []), 0), (44, (.newarray .int, []), 1), (46, (.putfield 24, [(9, 5)]), 6), (49, (.aload_n 0, []), 0), (50, (.sipush 300, []), 0), (53, (.newarray .long, []), 7), (55, (.putfield 27, [(9, 6)]), 8), (58, (.return_, []), 0)]
def mi_11 : rf_E1 := (mt_11, 11, cd_11)
def mt_12 : rf_Mt := (⟨"MemoryTransactions$Replay", "<init>", "([LMemoryTransactions$Program;)V"⟩, prog_9_method_1_code, 2, (Option.none : Option Jvm.ClassFile.FieldType))
def cd_12 : List (Nat × rf_I × Nat) := [(0, (.aload_n 0, []), 0), (1, (.invokespecial 3, [(10, 0)]), 0), (4, (.aload_n 0, []), 0), (5, (.aload_n 1, []), 0), (6, (.putfield 9, [(10, 3)]), 1), (9, (.aload_n 0, []), 0), (10, (.new 15, [(0, 4)]), 2), (13, (.dup, []), 0), (14, (.invokespecial 17, [(0, 0), (0, 5)]), 3), (17, (.putfield 18, [(10, 0)]), 4), (20, (.aload_n 0, []), 0), (21, (.new 22, [(0, 7)]), 5), (24, (.dup, []), 0), (25, (.aload_n 0, []), 0), (26, (.getfield 18, [(10, 0)]), 6), (29, (.aload_n 1, []), 0), (30, (.iconst 0, []), 0), (31, (.aaload, []), 0), (32, (.invokespecial 24, [(0, 2), (0, 9)]), 7), (35, (.putfield 27, [(10, 4)]), 8), (38, (.aload_n 0, []), 0), (39, (.iconst 0, []), 0), (40, (.putfield 31, [(10, 1)]), 9), (43, (.aload_n 0, []), 0), (44, (.iconst 1, []), 0), (45, (.putfield 35, [(10, 2)]), 10), (48, (.return_, []), 0)]
def mi_12 : rf_E1 := (mt_12, 12, cd_12)
def mt_13 : rf_Mt := (⟨"MemoryTransactions", "feed", "(IIIII)I"⟩, prog_1_method_2_code, 6, (Option.some Jvm.ClassFile.FieldType.int))
def cd_13 : List (Nat × rf_I × Nat) := [(0, (.aload_n 0, []), 0), (1, (.getfield 13, [(0, 1)]), 29), (4, (.bipush 20, []), 0), (6, (.iadd, []), 0), (7, (.sipush 800, []), 0), (10, (.if_icmp .le 5, [(0, 15)]), 0), (13, (.iconst (-1), []), 0), (14, (.ireturn, []), 0), (15, (.aload_n 0, []), 0), (16, (.iload_n 1, []), 0), (17, (.invokevirtual 69, [(0, 1), (0, 14)]), 30), (20, (.aload_n 0, []), 0), (21, (.iload_n 2, []), 0), (22, (.invokevirtual 69, [(0, 1), (0, 14)]), 30), (25, (.aload_n 0, []), 0), (26, (.iload_n 3, []), 0), (27, (.invokevirtual 69, [(0, 1), (0, 14)]), 30), (30, (.aload_n 0, []), 0), (31, (.iload 4, []), 0), (33, (.invokevirtual 69, [(0, 1), (0, 14)]), 30), (36, (.aload_n 0, []), 0), (37, (.iload 5, []), 0), (39, (.invokevirtual 69, [(0, 1), (0, 14)]), 30), (42, (.aload_n 0, []), 0), (43, (.getfield 13, [(0, 1)]), 29), (46, (.ireturn, []), 0)]
def mi_13 : rf_E1 := (mt_13, 1, cd_13)
def mt_14 : rf_Mt := (⟨"MemoryTransactions", "feedNumber", "(I)V"⟩, prog_1_method_21_code, 3, (Option.none : Option Jvm.ClassFile.FieldType))
def cd_14 : List (Nat × rf_I × Nat) := [(0, (.bipush 24, []), 0), (2, (.istore_n 2, []), 0), (3, (.iload_n 2, []), 0), (4, (.ifCond .lt 45, [(0, 49)]), 0), (7, (.aload_n 0, []), 0), (8, (.getfield 13, [(0, 1)]), 29), (11, (.sipush 800, []), 0), (14, (.if_icmp .ge 35, [(0, 49)]), 0), (17, (.aload_n 0, []), 0), (18, (.getfield 9, [(0, 0)]), 31), (21, (.aload_n 0, []), 0), (22, (.getfield 13, [(0, 1)]), 29), (25, (.iload_n 1, []), 0), (26, (.iload_n 2, []), 0), (27, (.iushr, []), 0), (28, (.sipush 255, []), 0), (31, (.iand, []), 0), (32, (.iastore, []), 0), (33, (.aload_n 0, []), 0), (34, (.dup, []), 0), (35, (.getfield 13, [(0, 1)]), 29), (38, (.iconst 1, []), 0), (39, (.iadd, []), 0), (40, (.putfield 13, [(0, 1)]), 3), (43, (.iinc 2 (-8), []), 0), (46, (.goto (-43), [(0, 3)]), 0), (49, (.return_, []), 0)]
def mi_14 : rf_E1 := (mt_14, 1, cd_14)
def mt_15 : rf_Mt := (⟨"MemoryTransactions", "end", "(I)I"⟩, prog_1_method_3_code, 2, (Option.some Jvm.ClassFile.FieldType.int))
def cd_15 : List (Nat × rf_I × Nat) := [(0, (.iload_n 1, []), 0), (1, (.ifCond .lt 18, [(0, 19)]), 0), (4, (.iload_n 1, []), 0), (5, (.bipush 20, []), 0), (7, (.if_icmp .gt 12, [(0, 19)]), 0), (10, (.aload_n 0, []), 0), (11, (.getfield 13, [(0, 1)]), 29), (14, (.bipush 20, []), 0), (16, (.if_icmp .ge 5, [(0, 21)]), 0), (19, (.iconst (-1), []), 0), (20, (.ireturn, []), 0), (21, (.aload_n 0, []), 0), (22, (.aload_n 0, []), 0), (23, (.getfield 13, [(0, 1)]), 29), (26, (.bipush 20, []), 0), (28, (.isub, []), 0), (29, (.iload_n 1, []), 0), (30, (.iadd, []), 0), (31, (.putfield 13, [(0, 1)]), 3), (34, (.aload_n 0, []), 0), (35, (.getfield 13, [(0, 1)]), 29), (38, (.ireturn, []), 0)]
def mi_15 : rf_E1 := (mt_15, 1, cd_15)
def mt_16 : rf_Mt := (⟨"MemoryTransactions", "text", "()I"⟩, prog_1_method_4_code, 1, (Option.some Jvm.ClassFile.FieldType.int))
def cd_16 : List (Nat × rf_I × Nat) := [(0, (.aload_n 0, []), 0), (1, (.getfield 24, [(0, 3)]), 32), (4, (.bipush 12, []), 0), (6, (.if_icmp .lt 5, [(0, 11)]), 0), (9, (.iconst (-1), []), 0), (10, (.ireturn, []), 0), (11, (.aload_n 0, []), 0), (12, (.aload_n 0, []), 0), (13, (.getfield 33, [(0, 5)]), 33), (16, (.aload_n 0, []), 0), (17, (.getfield 9, [(0, 0)]), 31), (20, (.aload_n 0, []), 0), (21, (.getfield 13, [(0, 1)]), 29), (24, (.aload_n 0, []), 0), (25, (.getfield 19, [(0, 2)]), 6), (28, (.aload_n 0, []), 0), (29, (.getfield 24, [(0, 3)]), 32), (32, (.aaload, []), 0), (33, (.invokevirtual 73, [(0, 3), (2, 17)]), 34), (36, (.putfield 27, [(0, 4)]), 10), (39, (.aload_n 0, []), 0), (40, (.iconst 0, []), 0), (41, (.putfield 13, [(0, 1)]), 3), (44, (.aload_n 0, []), 0), (45, (.getfield 27, [(0, 4)]), 35), (48, (.iconst (-1), []), 0), (49, (.if_icmp .eq 6, [(0, 55)]), 0), (52, (.bipush (-2), []), 0), (54, (.ireturn, []), 0), (55, (.aload_n 0, []), 0), (56, (.dup, []), 0), (57, (.getfield 24, [(0, 3)]), 32), (60, (.iconst 1, []), 0), (61, (.iadd, []), 0), (62, (.putfield 24, [(0, 3)]), 9), (65, (.aload_n 0, []), 0), (66, (.getfield 24, [(0, 3)]), 32), (69, (.iconst 1, []), 0), (70, (.isub, []), 0), (71, (.ireturn, []), 0)]
def mi_16 : rf_E1 := (mt_16, 1, cd_16)
def mt_17 : rf_Mt := (⟨"MemoryTransactions$Parser", "parse", "([IILMemoryTransactions$Program;)I"⟩, prog_7_method_2_code, 4, (Option.some Jvm.ClassFile.FieldType.int))
def cd_17 : List (Nat × rf_I × Nat) := [(0, (.aload_n 0, []), 0), (1, (.aload_n 3, []), 0), (2, (.putfield 21, [(2, 1)]), 6), (5, (.aload_n 0, []), 0), (6, (.getfield 21, [(2, 1)]), 7), (9, (.invokevirtual 25, [(0, 0), (1, 18)]), 8), (12, (.aload_n 0, []), 0), (13, (.iconst 0, []), 0), (14, (.putfield 28, [(2, 2)]), 9), (17, (.aload_n 0, []), 0), (18, (.iconst (-1), []), 0), (19, (.putfield 32, [(2, 3)]), 10), (22, (.aload_n 0, []), 0), (23, (.iconst 0, []), 0), (24, (.putfield 35, [(2, 4)]), 11), (27, (.aload_n 0, []), 0), (28, (.getfield 12, [(2, 0)]), 12), (31, (.aload_n 1, []), 0), (32, (.iload_n 2, []), 0), (33, (.invokevirtual 39, [(0, 2), (3, 19)]), 13), (36, (.aload_n 0, []), 0), (37, (.getfield 21, [(2, 1)]), 7), (40, (.aload_n 0, []), 0), (41, (.iconst (-1), []), 0), (42, (.iconst 0, []), 0), (43, (.iconst 0, []), 0), (44, (.invokevirtual 43, [(0, 3), (2, 35)]), 14), (47, (.putfield 47, [(1, 4)]), 15), (50, (.aload_n 0, []), 0), (51, (.iconst 0, []), 0), (52, (.invokevirtual 50, [(0, 1), (2, 45)]), 16), (55, (.aload_n 0, []), 0), (56, (.getfield 32, [(2, 3)]), 17), (59, (.ireturn, []), 0)]
def mi_17 : rf_E1 := (mt_17, 3, cd_17)
def mt_18 : rf_Mt := (⟨"MemoryTransactions$Program", "reset", "()V"⟩, prog_8_method_2_code, 1, (Option.none : Option Jvm.ClassFile.FieldType))
def cd_18 : List (Nat × rf_I × Nat) := [(0, (.aload_n 0, []), 0), (1, (.iconst 0, []), 0), (2, (.putfield 45, [(1, 0)]), 13), (5, (.aload_n 0, []), 0), (6, (.iconst 0, []), 0), (7, (.putfield 49, [(1, 1)]), 14), (10, (.aload_n 0, []), 0), (11, (.iconst 0, []), 0), (12, (.putfield 52, [(1, 2)]), 15), (15, (.aload_n 0, []), 0), (16, (.iconst 0, []), 0), (17, (.putfield 55, [(1, 3)]), 16), (20, (.aload_n 0, []), 0), (21, (.iconst (-1), []), 0), (22, (.putfield 58, [(1, 4)]), 17), (25, (.return_, []), 0)]
def mi_18 : rf_E1 := (mt_18, 2, cd_18)
def mt_19 : rf_Mt := (⟨"MemoryTransactions$Scanner", "scan", "([II)V"⟩, prog_11_method_2_code, 4, (Option.none : Option Jvm.ClassFile.FieldType))
def cd_19 : List (Nat × rf_I × Nat) := [(0, (.aload_n 0, []), 0), (1, (.aload_n 1, []), 0), (2, (.putfield 21, [(3, 4)]), 5), (5, (.aload_n 0, []), 0), (6, (.iload_n 2, []), 0), (7, (.aload_n 1, []), 0), (8, (.arraylength, []), 0), (9, (.invokestatic 24, [(12, 0)]), 6), (12, (.sipush 800, []), 0), (15, (.invokestatic 24, [(12, 0)]), 6), (18, (.putfield 30, [(3, 5)]), 7), (21, (.aload_n 0, []), 0), (22, (.iconst 0, []), 0), (23, (.putfield 34, [(3, 6)]), 8), (26, (.aload_n 0, []), 0), (27, (.iconst 0, []), 0), (28, (.putfield 37, [(3, 3)]), 9), (31, (.iconst 0, []), 0), (32, (.istore_n 3, []), 0), (33, (.iload_n 3, []), 0), (34, (.sipush 800, []), 0), (37, (.if_icmp .ge 75, [(0, 112)]), 0), (40, (.aload_n 0, []), 0), (41, (.getfield 34, [(3, 6)]), 10), (44, (.aload_n 0, []), 0), (45, (.getfield 30, [(3, 5)]), 11), (48, (.if_icmp .ge 64, [(0, 112)]), 0), (51, (.aload_n 0, []), 0), (52, (.getfield 21, [(3, 4)]), 12), (55, (.aload_n 0, []), 0), (56, (.getfield 34, [(3, 6)]), 10), (59, (.iaload, []), 0), (60, (.bipush 32, []), 0), (62, (.if_icmp .eq 17, [(0, 79)]), 0), (65, (.aload_n 0, []), 0), (66, (.getfield 21, [(3, 4)]), 12), (69, (.aload_n 0, []), 0), (70, (.getfield 34, [(3, 6)]), 10), (73, (.iaload, []), 0), (74, (.bipush 10, []), 0), (76, (.if_icmp .ne 16, [(0, 92)]), 0), (79, (.aload_n 0, []), 0), (80, (.dup, []), 0), (81, (.getfield 34, [(3, 6)]), 10), (84, (.iconst 1, []), 0), (85, (.iadd, []), 0), (86, (.putfield 34, [(3, 6)]), 8), (89, (.goto 17, [(0, 106)]), 0), (92, (.aload_n 0, []), 0), (93, (.invokevirtual 40, [(0, 0), (3, 20)]), 13), (96, (.aload_n 0, []), 0), (97, (.dup, []), 0), (98, (.getfield 37, [(3, 3)]), 14), (101, (.iconst 1, []), 0), (102, (.iadd, []), 0), (103, (.putfield 37, [(3, 3)]), 9), (106, (.iinc 3 1, []), 0), (109, (.goto (-76), [(0, 33)]), 0), (112, (.aload_n 0, []), 0), (113, (.getfield 9, [(3, 0)]), 15), (116, (.aload_n 0, []), 0), (117, (.getfield 37, [(3, 3)]), 14), (120, (.iconst 0, []), 0), (121, (.iastore, []), 0), (122, (.aload_n 0, []), 0), (123, (.getfield 15, [(3, 1)]), 16), (126, (.aload_n 0, []), 0), (127, (.getfield 37, [(3, 3)]), 14), (130, (.aload_n 0, []), 0), (131, (.getfield 30, [(3, 5)]), 11), (134, (.iastore, []), 0), (135, (.aload_n 0, []), 0), (136, (.getfield 18, [(3, 2)]), 17), (139, (.aload_n 0, []), 0), (140, (.getfield 37, [(3, 3)]), 14), (143, (.iconst 0, []), 0), (144, (.iastore, []), 0), (145, (.return_, []), 0)]
def mi_19 : rf_E1 := (mt_19, 4, cd_19)
def mt_20 : rf_Mt := (⟨"MemoryTransactions$Scanner", "readToken", "()V"⟩, prog_11_method_3_code, 1, (Option.none : Option Jvm.ClassFile.FieldType))
def cd_20 : List (Nat × rf_I × Nat) := [(0, (.aload_n 0, []), 0), (1, (.getfield 15, [(3, 1)]), 16), (4, (.aload_n 0, []), 0), (5, (.getfield 37, [(3, 3)]), 14), (8, (.aload_n 0, []), 0), (9, (.getfield 34, [(3, 6)]), 10), (12, (.iastore, []), 0), (13, (.aload_n 0, []), 0), (14, (.getfield 18, [(3, 2)]), 17), (17, (.aload_n 0, []), 0), (18, (.getfield 37, [(3, 3)]), 14), (21, (.iconst 0, []), 0), (22, (.iastore, []), 0), (23, (.aload_n 0, []), 0), (24, (.getfield 21, [(3, 4)]), 12), (27, (.aload_n 0, []), 0), (28, (.getfield 34, [(3, 6)]), 10), (31, (.iaload, []), 0), (32, (.invokestatic 43, [(0, 1), (0, 21)]), 18), (35, (.ifCond .eq 10, [(0, 45)]), 0), (38, (.aload_n 0, []), 0), (39, (.invokevirtual 47, [(0, 0), (3, 22)]), 19), (42, (.goto 72, [(0, 114)]), 0), (45, (.aload_n 0, []), 0), (46, (.getfield 21, [(3, 4)]), 12), (49, (.aload_n 0, []), 0), (50, (.getfield 34, [(3, 6)]), 10), (53, (.iaload, []), 0), (54, (.invokestatic 50, [(0, 1), (0, 32)]), 20), (57, (.ifCond .eq 10, [(0, 67)]), 0), (60, (.aload_n 0, []), 0), (61, (.invokevirtual 53, [(0, 0), (3, 33)]), 21), (64, (.goto 50, [(0, 114)]), 0), (67, (.aload_n 0, []), 0), (68, (.getfield 9, [(3, 0)]), 15), (71, (.aload_n 0, []), 0), (72, (.getfield 37, [(3, 3)]), 14), (75, (.aload_n 0, []), 0), (76, (.getfield 21, [(3, 4)]), 12), (79, (.aload_n 0, []), 0), (80, (.getfield 34, [(3, 6)]), 10), (83, (.iaload, []), 0), (84, (.invokestatic 56, [(0, 1), (0, 34)]), 22), (87, (.ifCond .eq 15, [(0, 102)]), 0), (90, (.aload_n 0, []), 0), (91, (.getfield 21, [(3, 4)]), 12), (94, (.aload_n 0, []), 0), (95, (.getfield 34, [(3, 6)]), 10), (98, (.iaload, []), 0), (99, (.goto 4, [(0, 103)]), 0), (102, (.iconst 3, []), 0), (103, (.iastore, []), 0), (104, (.aload_n 0, []), 0), (105, (.dup, []), 0), (106, (.getfield 34, [(3, 6)]), 10), (109, (.iconst 1, []), 0), (110, (.iadd, []), 0), (111, (.putfield 34, [(3, 6)]), 8), (114, (.return_, []), 0)]
def mi_20 : rf_E1 := (mt_20, 4, cd_20)
def mt_21 : rf_Mt := (⟨"MemoryTransactions$Scanner", "isSmallLetter", "(I)Z"⟩, prog_11_method_8_code, 1, (Option.some Jvm.ClassFile.FieldType.boolean))
def cd_21 : List (Nat × rf_I × Nat) := [(0, (.iload_n 0, []), 0), (1, (.bipush 97, []), 0), (3, (.if_icmp .lt 13, [(0, 16)]), 0), (6, (.iload_n 0, []), 0), (7, (.bipush 122, []), 0), (9, (.if_icmp .gt 7, [(0, 16)]), 0), (12, (.iconst 1, []), 0), (13, (.goto 4, [(0, 17)]), 0), (16, (.iconst 0, []), 0), (17, (.ireturn, []), 0)]
def mi_21 : rf_E1 := (mt_21, 4, cd_21)
def mt_22 : rf_Mt := (⟨"MemoryTransactions$Scanner", "readLetters", "()V"⟩, prog_11_method_4_code, 2, (Option.none : Option Jvm.ClassFile.FieldType))
def cd_22 : List (Nat × rf_I × Nat) := [(0, (.aload_n 0, []), 0), (1, (.getfield 34, [(3, 6)]), 10), (4, (.istore_n 1, []), 0), (5, (.aload_n 0, []), 0), (6, (.getfield 34, [(3, 6)]), 10), (9, (.aload_n 0, []), 0), (10, (.getfield 30, [(3, 5)]), 11), (13, (.if_icmp .ge 31, [(0, 44)]), 0), (16, (.aload_n 0, []), 0), (17, (.getfield 21, [(3, 4)]), 12), (20, (.aload_n 0, []), 0), (21, (.getfield 34, [(3, 6)]), 10), (24, (.iaload, []), 0), (25, (.invokestatic 43, [(0, 1), (0, 21)]), 18), (28, (.ifCond .eq 16, [(0, 44)]), 0), (31, (.aload_n 0, []), 0), (32, (.dup, []), 0), (33, (.getfield 34, [(3, 6)]), 10), (36, (.iconst 1, []), 0), (37, (.iadd, []), 0), (38, (.putfield 34, [(3, 6)]), 8), (41, (.goto (-36), [(0, 5)]), 0), (44, (.aload_n 0, []), 0), (45, (.getfield 34, [(3, 6)]), 10), (48, (.iload_n 1, []), 0), (49, (.isub, []), 0), (50, (.iconst 1, []), 0), (51, (.if_icmp .ne 34, [(0, 85)]), 0), (54, (.aload_n 0, []), 0), (55, (.getfield 9, [(3, 0)]), 15), (58, (.aload_n 0, []), 0), (59, (.getfield 37, [(3, 3)]), 14), (62, (.iconst 1, []), 0), (63, (.iastore, []), 0), (64, (.aload_n 0, []), 0), (65, (.getfield 18, [(3, 2)]), 17), (68, (.aload_n 0, []), 0), (69, (.getfield 37, [(3, 3)]), 14), (72, (.aload_n 0, []), 0), (73, (.getfield 21, [(3, 4)]), 12), (76, (.iload_n 1, []), 0), (77, (.iaload, []), 0), (78, (.bipush 97, []), 0), (80, (.isub, []), 0), (81, (.iastore, []), 0), (82, (.goto 17, [(0, 99)]), 0), (85, (.aload_n 0, []), 0), (86, (.getfield 9, [(3, 0)]), 15), (89, (.aload_n 0, []), 0), (90, (.getfield 37, [(3, 3)]), 14), (93, (.aload_n 0, []), 0), (94, (.iload_n 1, []), 0), (95, (.invokevirtual 59, [(0, 1), (3, 23)]), 23), (98, (.iastore, []), 0), (99, (.return_, []), 0)]
def mi_22 : rf_E1 := (mt_22, 4, cd_22)
def mt_23 : rf_Mt := (⟨"MemoryTransactions$Scanner", "knownWord", "(I)I"⟩, prog_11_method_6_code, 2, (Option.some Jvm.ClassFile.FieldType.int))
def cd_23 : List (Nat × rf_I × Nat) := [(0, (.aload_n 0, []), 0), (1, (.iload_n 1, []), 0), (2, (.ldc 63, [(2, 2)]), 24), (4, (.invokevirtual 65, [(0, 2), (3, 24)]), 25), (7, (.ifCond .eq 6, [(0, 13)]), 0), (10, (.bipush 10, []), 0), (12, (.ireturn, []), 0), (13, (.aload_n 0, []), 0), (14, (.iload_n 1, []), 0), (15, (.ldc 69, [(2, 4)]), 26), (17, (.invokevirtual 65, [(0, 2), (3, 24)]), 25), (20, (.ifCond .eq 6, [(0, 26)]), 0), (23, (.bipush 11, []), 0), (25, (.ireturn, []), 0), (26, (.aload_n 0, []), 0), (27, (.iload_n 1, []), 0), (28, (.ldc 71, [(2, 6)]), 27), (30, (.invokevirtual 65, [(0, 2), (3, 24)]), 25), (33, (.ifCond .eq 6, [(0, 39)]), 0), (36, (.bipush 12, []), 0), (38, (.ireturn, []), 0), (39, (.aload_n 0, []), 0), (40, (.iload_n 1, []), 0), (41, (.ldc 73, [(2, 8)]), 28), (43, (.invokevirtual 65, [(0, 2), (3, 24)]), 25), (46, (.ifCond .eq 6, [(0, 52)]), 0), (49, (.bipush 13, []), 0), (51, (.ireturn, []), 0), (52, (.aload_n 0, []), 0), (53, (.iload_n 1, []), 0), (54, (.ldc 75, [(2, 10)]), 29), (56, (.invokevirtual 65, [(0, 2), (3, 24)]), 25), (59, (.ifCond .eq 6, [(0, 65)]), 0), (62, (.bipush 14, []), 0), (64, (.ireturn, []), 0), (65, (.aload_n 0, []), 0), (66, (.iload_n 1, []), 0), (67, (.ldc 77, [(2, 12)]), 30), (69, (.invokevirtual 65, [(0, 2), (3, 24)]), 25), (72, (.ifCond .eq 6, [(0, 78)]), 0), (75, (.bipush 15, []), 0), (77, (.ireturn, []), 0), (78, (.aload_n 0, []), 0), (79, (.iload_n 1, []), 0), (80, (.ldc 79, [(2, 14)]), 31), (82, (.invokevirtual 65, [(0, 2), (3, 24)]), 25), (85, (.ifCond .eq 6, [(0, 91)]), 0), (88, (.bipush 16, []), 0), (90, (.ireturn, []), 0), (91, (.aload_n 0, []), 0), (92, (.iload_n 1, []), 0), (93, (.ldc 81, [(2, 16)]), 32), (95, (.invokevirtual 65, [(0, 2), (3, 24)]), 25), (98, (.ifCond .eq 6, [(0, 104)]), 0), (101, (.bipush 17, []), 0), (103, (.ireturn, []), 0), (104, (.aload_n 0, []), 0), (105, (.iload_n 1, []), 0), (106, (.ldc 83, [(2, 18)]), 33), (108, (.invokevirtual 65, [(0, 2), (3, 24)]), 25), (111, (.ifCond .eq 6, [(0, 117)]), 0), (114, (.bipush 18, []), 0), (116, (.ireturn, []), 0), (117, (.aload_n 0, []), 0), (118, (.iload_n 1, []), 0), (119, (.ldc 85, [(2, 20)]), 34), (121, (.invokevirtual 65, [(0, 2), (3, 24)]), 25), (124, (.ifCond .eq 8, [(0, 132)]), 0), (127, (.bipush 19, []), 0), (129, (.goto 4, [(0, 133)]), 0), (132, (.iconst 3, []), 0), (133, (.ireturn, []), 0)]
def mi_23 : rf_E1 := (mt_23, 4, cd_23)
def mt_24 : rf_Mt := (⟨"MemoryTransactions$Scanner", "reads", "(ILjava/lang/String;)Z"⟩, prog_11_method_7_code, 4, (Option.some Jvm.ClassFile.FieldType.boolean))
def cd_24 : List (Nat × rf_I × Nat) := [(0, (.aload_n 0, []), 0), (1, (.getfield 34, [(3, 6)]), 10), (4, (.iload_n 1, []), 0), (5, (.isub, []), 0), (6, (.aload_n 2, []), 0), (7, (.invokevirtual 87, [(0, 0), (-1, 25)]), 35), (10, (.if_icmp .eq 5, [(0, 15)]), 0), (13, (.iconst 0, []), 0), (14, (.ireturn, []), 0), (15, (.iconst 0, []), 0), (16, (.istore_n 3, []), 0), (17, (.iload_n 3, []), 0), (18, (.aload_n 2, []), 0), (19, (.invokevirtual 87, [(0, 0), (-1, 25)]), 35), (22, (.if_icmp .ge 27, [(0, 49)]), 0), (25, (.aload_n 0, []), 0), (26, (.getfield 21, [(3, 4)]), 12), (29, (.iload_n 1, []), 0), (30, (.iload_n 3, []), 0), (31, (.iadd, []), 0), (32, (.iaload, []), 0), (33, (.aload_n 2, []), 0), (34, (.iload_n 3, []), 0), (35, (.invokevirtual 92, [(0, 1), (-1, 27)]), 36), (38, (.if_icmp .eq 5, [(0, 43)]), 0), (41, (.iconst 0, []), 0), (42, (.ireturn, []), 0), (43, (.iinc 3 1, []), 0), (46, (.goto (-29), [(0, 17)]), 0), (49, (.iconst 1, []), 0), (50, (.ireturn, []), 0)]
def mi_24 : rf_E1 := (mt_24, 4, cd_24)
def mt_25 : rf_Mt := (⟨"java/lang/String", "length", "()I"⟩, prog_16_method_54_code, 1, (Option.some Jvm.ClassFile.FieldType.int))
def cd_25 : List (Nat × rf_I × Nat) := [(0, (.aload_n 0, []), 0), (1, (.getfield 9, [(-1, 0)]), 0), (4, (.arraylength, []), 0), (5, (.aload_n 0, []), 0), (6, (.invokevirtual 335, [(0, 0), (-1, 26)]), 1), (9, (.ishr, []), 0), (10, (.ireturn, []), 0)]
def mi_25 : rf_E1 := (mt_25, 13, cd_25)
def mt_26 : rf_Mt := (⟨"java/lang/String", "coder", "()B"⟩, prog_16_method_152_code, 1, (Option.some Jvm.ClassFile.FieldType.byte))
def cd_26 : List (Nat × rf_I × Nat) := [(0, (.getstatic 38, [(0, 1)]), 2), (3, (.ifCond .eq 10, [(0, 13)]), 0), (6, (.aload_n 0, []), 0), (7, (.getfield 15, [(-1, 1)]), 3), (10, (.goto 4, [(0, 14)]), 0), (13, (.iconst 1, []), 0), (14, (.ireturn, []), 0)]
def mi_26 : rf_E1 := (mt_26, 13, cd_26)
def mt_27 : rf_Mt := (⟨"java/lang/String", "charAt", "(I)C"⟩, prog_16_method_56_code, 2, (Option.some Jvm.ClassFile.FieldType.char))
def cd_27 : List (Nat × rf_I × Nat) := [(0, (.aload_n 0, []), 0), (1, (.invokevirtual 492, [(0, 0), (-1, 28)]), 4), (4, (.ifCond .eq 12, [(0, 16)]), 0), (7, (.aload_n 0, []), 0), (8, (.getfield 9, [(-1, 0)]), 0), (11, (.iload_n 1, []), 0), (12, (.invokestatic 495, [(0, 2), (0, 29)]), 5), (15, (.ireturn, []), 0), (16, (.aload_n 0, []), 0), (17, (.getfield 9, [(-1, 0)]), 0), (20, (.iload_n 1, []), 0), (24, (.ireturn, []), 0)]
def mi_27 : rf_E1 := (mt_27, 13, cd_27)
def mt_28 : rf_Mt := (⟨"java/lang/String", "isLatin1", "()Z"⟩, prog_16_method_154_code, 1, (Option.some Jvm.ClassFile.FieldType.boolean))
def cd_28 : List (Nat × rf_I × Nat) := [(0, (.getstatic 38, [(0, 1)]), 2), (3, (.ifCond .eq 14, [(0, 17)]), 0), (6, (.aload_n 0, []), 0), (7, (.getfield 15, [(-1, 1)]), 3), (10, (.ifCond .ne 7, [(0, 17)]), 0), (13, (.iconst 1, []), 0), (14, (.goto 4, [(0, 18)]), 0), (17, (.iconst 0, []), 0), (18, (.ireturn, []), 0)]
def mi_28 : rf_E1 := (mt_28, 13, cd_28)
def mt_29 : rf_Mt := (⟨"java/lang/StringLatin1", "charAt", "([BI)C"⟩, prog_17_method_2_code, 2, (Option.some Jvm.ClassFile.FieldType.char))
def cd_29 : List (Nat × rf_I × Nat) := [(0, (.iload_n 1, []), 0), (1, (.aload_n 0, []), 0), (2, (.arraylength, []), 0), (3, (.invokestatic 9, [(0, 2), (0, 30)]), 0), (6, (.aload_n 0, []), 0), (7, (.iload_n 1, []), 0), (8, (.baload, []), 0), (9, (.sipush 255, []), 0), (12, (.iand, []), 0), (13, (.i2c, []), 0), (14, (.ireturn, []), 0)]
def mi_29 : rf_E1 := (mt_29, 14, cd_29)
def mt_30 : rf_Mt := (⟨"java/lang/String", "checkIndex", "(II)V"⟩, prog_16_method_155_code, 2, (Option.none : Option Jvm.ClassFile.FieldType))
def cd_30 (fz : Bool) : List (Nat × rf_I × Nat) := [(0, (.iload_n 0, []), 0), (1, (.iload_n 1, []), 0), (2, (.getstatic 1053, (if fz then [(2, 0)] else [(3, 0)])), 0), (5, (.invokestatic 1059, [(0, 3), (0, 31)]), 1), (8, (.pop, []), 0), (9, (.return_, []), 0)]
def mi_30 (fz : Bool) : rf_E1 := (mt_30, 18, cd_30 fz)
def mt_31 : rf_Mt := (⟨"jdk/internal/util/Preconditions", "checkIndex", "(IILjava/util/function/BiFunction;)I"⟩, prog_21_method_11_code, 3, (Option.some Jvm.ClassFile.FieldType.int))
def cd_31 : List (Nat × rf_I × Nat) := [(0, (.iload_n 0, []), 0), (1, (.ifCond .lt 8, [(0, 9)]), 0), (4, (.iload_n 0, []), 0), (5, (.iload_n 1, []), 0), (6, (.if_icmp .lt 10, [(0, 16)]), 0), (9, (.aload_n 2, []), 0), (10, (.iload_n 0, []), 0), (11, (.iload_n 1, []), 0), (15, (.athrow, []), 0), (16, (.iload_n 0, []), 0), (17, (.ireturn, []), 0)]
def mi_31 : rf_E1 := (mt_31, 15, cd_31)
def mt_32 : rf_Mt := (⟨"MemoryTransactions$Scanner", "isDigit", "(I)Z"⟩, prog_11_method_9_code, 1, (Option.some Jvm.ClassFile.FieldType.boolean))
def cd_32 : List (Nat × rf_I × Nat) := [(0, (.iload_n 0, []), 0), (1, (.bipush 48, []), 0), (3, (.if_icmp .lt 13, [(0, 16)]), 0), (6, (.iload_n 0, []), 0), (7, (.bipush 57, []), 0), (9, (.if_icmp .gt 7, [(0, 16)]), 0), (12, (.iconst 1, []), 0), (13, (.goto 4, [(0, 17)]), 0), (16, (.iconst 0, []), 0), (17, (.ireturn, []), 0)]
def mi_32 : rf_E1 := (mt_32, 4, cd_32)
def mt_33 : rf_Mt := (⟨"MemoryTransactions$Scanner", "readDigits", "()V"⟩, prog_11_method_5_code, 3, (Option.none : Option Jvm.ClassFile.FieldType))
def cd_33 : List (Nat × rf_I × Nat) := [(0, (.aload_n 0, []), 0), (1, (.getfield 34, [(3, 6)]), 10), (4, (.istore_n 1, []), 0), (5, (.iconst 0, []), 0), (6, (.istore_n 2, []), 0), (7, (.aload_n 0, []), 0), (8, (.getfield 34, [(3, 6)]), 10), (11, (.aload_n 0, []), 0), (12, (.getfield 30, [(3, 5)]), 11), (15, (.if_icmp .ge 60, [(0, 75)]), 0), (18, (.aload_n 0, []), 0), (19, (.getfield 21, [(3, 4)]), 12), (22, (.aload_n 0, []), 0), (23, (.getfield 34, [(3, 6)]), 10), (26, (.iaload, []), 0), (27, (.invokestatic 50, [(0, 1), (0, 32)]), 20), (30, (.ifCond .eq 45, [(0, 75)]), 0), (33, (.aload_n 0, []), 0), (34, (.getfield 34, [(3, 6)]), 10), (37, (.iload_n 1, []), 0), (38, (.isub, []), 0), (39, (.bipush 9, []), 0), (41, (.if_icmp .ge 21, [(0, 62)]), 0), (44, (.iload_n 2, []), 0), (45, (.bipush 10, []), 0), (47, (.imul, []), 0), (48, (.aload_n 0, []), 0), (49, (.getfield 21, [(3, 4)]), 12), (52, (.aload_n 0, []), 0), (53, (.getfield 34, [(3, 6)]), 10), (56, (.iaload, []), 0), (57, (.bipush 48, []), 0), (59, (.isub, []), 0), (60, (.iadd, []), 0), (61, (.istore_n 2, []), 0), (62, (.aload_n 0, []), 0), (63, (.dup, []), 0), (64, (.getfield 34, [(3, 6)]), 10), (67, (.iconst 1, []), 0), (68, (.iadd, []), 0), (69, (.putfield 34, [(3, 6)]), 8), (72, (.goto (-65), [(0, 7)]), 0), (75, (.aload_n 0, []), 0), (76, (.getfield 9, [(3, 0)]), 15), (79, (.aload_n 0, []), 0), (80, (.getfield 37, [(3, 3)]), 14), (83, (.aload_n 0, []), 0), (84, (.getfield 34, [(3, 6)]), 10), (87, (.iload_n 1, []), 0), (88, (.isub, []), 0), (89, (.bipush 9, []), 0), (91, (.if_icmp .le 7, [(0, 98)]), 0), (94, (.iconst 3, []), 0), (95, (.goto 4, [(0, 99)]), 0), (98, (.iconst 2, []), 0), (99, (.iastore, []), 0), (100, (.aload_n 0, []), 0), (101, (.getfield 18, [(3, 2)]), 17), (104, (.aload_n 0, []), 0), (105, (.getfield 37, [(3, 3)]), 14), (108, (.iload_n 2, []), 0), (109, (.iastore, []), 0), (110, (.return_, []), 0)]
def mi_33 : rf_E1 := (mt_33, 4, cd_33)
def mt_34 : rf_Mt := (⟨"MemoryTransactions$Scanner", "isSymbol", "(I)Z"⟩, prog_11_method_10_code, 1, (Option.some Jvm.ClassFile.FieldType.boolean))
def cd_34 : List (Nat × rf_I × Nat) := [(0, (.iload_n 0, []), 0), (1, (.lookupswitch 117 #[(35, 115), (37, 115), (40, 115), (41, 115), (42, 115), (43, 115), (45, 115), (47, 115), (59, 115), (60, 115), (61, 115), (123, 115), (125, 115)], [(0, 118), (35, 116), (37, 116), (40, 116), (41, 116), (42, 116), (43, 116), (45, 116), (47, 116), (59, 116), (60, 116), (61, 116), (123, 116), (125, 116)]), 0), (116, (.iconst 1, []), 0), (117, (.ireturn, []), 0), (118, (.iconst 0, []), 0), (119, (.ireturn, []), 0)]
def mi_34 : rf_E1 := (mt_34, 4, cd_34)
def mt_35 : rf_Mt := (⟨"MemoryTransactions$Parser", "statements", "(III)I"⟩, prog_7_method_10_code, 8, (Option.some Jvm.ClassFile.FieldType.int))
def cd_35 : List (Nat × rf_I × Nat) := [(0, (.iconst (-1), []), 0), (1, (.istore 4, []), 0), (3, (.iconst (-1), []), 0), (4, (.istore 5, []), 0), (6, (.iconst 0, []), 0), (7, (.istore 6, []), 0), (9, (.iload 6, []), 0), (11, (.bipush 40, []), 0), (13, (.if_icmp .gt 74, [(0, 87)]), 0), (16, (.aload_n 0, []), 0), (17, (.invokevirtual 77, [(0, 0), (2, 36)]), 18), (20, (.ifCond .ne 20, [(0, 40)]), 0), (23, (.aload_n 0, []), 0), (24, (.iconst 0, []), 0), (25, (.invokevirtual 67, [(0, 1), (2, 37)]), 19), (28, (.ifCond .ne 12, [(0, 40)]), 0), (31, (.aload_n 0, []), 0), (32, (.bipush 125, []), 0), (34, (.invokevirtual 67, [(0, 1), (2, 37)]), 19), (37, (.ifCond .eq 6, [(0, 43)]), 0), (40, (.iload 4, []), 0), (42, (.ireturn, []), 0), (43, (.aload_n 0, []), 0), (44, (.iload_n 1, []), 0), (45, (.iload_n 2, []), 0), (46, (.iload_n 3, []), 0), (47, (.invokevirtual 81, [(0, 3), (2, 38)]), 20), (50, (.istore 7, []), 0), (52, (.iload 5, []), 0), (54, (.iconst (-1), []), 0), (55, (.if_icmp .ne 10, [(0, 65)]), 0), (58, (.iload 7, []), 0), (60, (.istore 4, []), 0), (62, (.goto 15, [(0, 77)]), 0), (65, (.aload_n 0, []), 0), (66, (.getfield 21, [(2, 1)]), 7), (69, (.getfield 84, [(1, 11)]), 21), (72, (.iload 5, []), 0), (74, (.iload 7, []), 0), (76, (.iastore, []), 0), (77, (.iload 7, []), 0), (79, (.istore 5, []), 0), (81, (.iinc 6 1, []), 0), (84, (.goto (-75), [(0, 9)]), 0), (87, (.iload 4, []), 0), (89, (.ireturn, []), 0)]
def mi_35 : rf_E1 := (mt_35, 3, cd_35)
def mt_36 : rf_Mt := (⟨"MemoryTransactions$Parser", "isFaulty", "()Z"⟩, prog_7_method_3_code, 1, (Option.some Jvm.ClassFile.FieldType.boolean))
def cd_36 : List (Nat × rf_I × Nat) := [(0, (.aload_n 0, []), 0), (1, (.getfield 32, [(2, 3)]), 17), (4, (.iconst (-1), []), 0), (5, (.if_icmp .eq 7, [(0, 12)]), 0), (8, (.iconst 1, []), 0), (9, (.goto 4, [(0, 13)]), 0), (12, (.iconst 0, []), 0), (13, (.ireturn, []), 0)]
def mi_36 : rf_E1 := (mt_36, 3, cd_36)
def mt_37 : rf_Mt := (⟨"MemoryTransactions$Parser", "isAt", "(I)Z"⟩, prog_7_method_8_code, 2, (Option.some Jvm.ClassFile.FieldType.boolean))
def cd_37 : List (Nat × rf_I × Nat) := [(0, (.aload_n 0, []), 0), (1, (.getfield 32, [(2, 3)]), 17), (4, (.iconst (-1), []), 0), (5, (.if_icmp .ne 23, [(0, 28)]), 0), (8, (.aload_n 0, []), 0), (9, (.getfield 12, [(2, 0)]), 12), (12, (.getfield 58, [(3, 0)]), 22), (15, (.aload_n 0, []), 0), (16, (.getfield 28, [(2, 2)]), 23), (19, (.iaload, []), 0), (20, (.iload_n 1, []), 0), (21, (.if_icmp .ne 7, [(0, 28)]), 0), (24, (.iconst 1, []), 0), (25, (.goto 4, [(0, 29)]), 0), (28, (.iconst 0, []), 0), (29, (.ireturn, []), 0)]
def mi_37 : rf_E1 := (mt_37, 3, cd_37)
def mt_38 : rf_Mt := (⟨"MemoryTransactions$Parser", "statement", "(III)I"⟩, prog_7_method_11_code, 6, (Option.some Jvm.ClassFile.FieldType.int))
def cd_38 : List (Nat × rf_I × Nat) := [(0, (.aload_n 0, []), 0), (1, (.invokevirtual 87, [(0, 0), (2, 39)]), 24), (4, (.istore 4, []), 0), (6, (.iload 4, []), 0), (8, (.invokestatic 91, [(0, 1), (0, 40)]), 25), (11, (.ifCond .eq 18, [(0, 29)]), 0), (14, (.aload_n 0, []), 0), (15, (.getfield 21, [(2, 1)]), 7), (18, (.iload 4, []), 0), (20, (.iload_n 1, []), 0), (21, (.iload_n 2, []), 0), (22, (.iload_n 3, []), 0), (23, (.invokevirtual 94, [(0, 4), (1, 41)]), 26), (26, (.goto 4, [(0, 30)]), 0), (29, (.iconst (-1), []), 0), (30, (.istore 5, []), 0), (32, (.iload 5, []), 0), (34, (.iconst (-1), []), 0), (35, (.if_icmp .ne 9, [(0, 44)]), 0), (38, (.aload_n 0, []), 0), (39, (.invokevirtual 74, [(0, 0), (2, 42)]), 27), (42, (.iconst (-1), []), 0), (43, (.ireturn, []), 0), (44, (.aload_n 0, []), 0), (45, (.getfield 21, [(2, 1)]), 7), (48, (.getfield 98, [(1, 6)]), 28), (51, (.iload 5, []), 0), (53, (.aload_n 0, []), 0), (54, (.invokevirtual 101, [(0, 0), (2, 43)]), 29), (57, (.iastore, []), 0), (58, (.aload_n 0, []), 0), (59, (.invokevirtual 71, [(0, 0), (2, 44)]), 30), (62, (.iload 4, []), 0), (64, (.lookupswitch 90 #[(1, 44), (13, 81), (14, 57), (19, 64)], [(0, 154), (1, 108), (13, 145), (14, 121), (19, 128)]), 0), (108, (.aload_n 0, []), 0), (109, (.bipush 61, []), 0), (111, (.invokevirtual 50, [(0, 1), (2, 45)]), 16), (114, (.aload_n 0, []), 0), (115, (.invokevirtual 104, [(0, 0), (2, 46)]), 31), (118, (.goto 45, [(0, 163)]), 0), (121, (.aload_n 0, []), 0), (122, (.invokevirtual 104, [(0, 0), (2, 46)]), 31), (125, (.goto 38, [(0, 163)]), 0), (128, (.aload_n 0, []), 0), (129, (.iconst 1, []), 0), (130, (.putfield 35, [(2, 4)]), 11), (133, (.aload_n 0, []), 0), (134, (.invokevirtual 104, [(0, 0), (2, 46)]), 31), (137, (.aload_n 0, []), 0), (138, (.iconst 0, []), 0), (139, (.putfield 35, [(2, 4)]), 11), (142, (.goto 21, [(0, 163)]), 0), (145, (.aload_n 0, []), 0), (146, (.bipush 59, []), 0), (148, (.invokevirtual 50, [(0, 1), (2, 45)]), 16), (151, (.goto 12, [(0, 163)]), 0), (154, (.aload_n 0, []), 0), (155, (.iload 4, []), 0), (157, (.iload 5, []), 0), (159, (.iload_n 3, []), 0), (160, (.invokevirtual 107, [(0, 3), (2, 53)]), 32), (163, (.iload 5, []), 0), (165, (.ireturn, []), 0)]
def mi_38 : rf_E1 := (mt_38, 3, cd_38)
def mt_39 : rf_Mt := (⟨"MemoryTransactions$Parser", "token", "()I"⟩, prog_7_method_5_code, 1, (Option.some Jvm.ClassFile.FieldType.int))
def cd_39 : List (Nat × rf_I × Nat) := [(0, (.aload_n 0, []), 0), (1, (.getfield 12, [(2, 0)]), 12), (4, (.getfield 58, [(3, 0)]), 22), (7, (.aload_n 0, []), 0), (8, (.getfield 28, [(2, 2)]), 23), (11, (.iaload, []), 0), (12, (.ireturn, []), 0)]
def mi_39 : rf_E1 := (mt_39, 3, cd_39)
def mt_40 : rf_Mt := (⟨"MemoryTransactions$Parser", "canBegin", "(I)Z"⟩, prog_7_method_12_code, 1, (Option.some Jvm.ClassFile.FieldType.boolean))
def cd_40 : List (Nat × rf_I × Nat) := [(0, (.iload_n 0, []), 0), (1, (.tableswitch 93 1 19 #[91, 93, 93, 93, 93, 93, 93, 93, 93, 91, 93, 91, 91, 91, 91, 93, 91, 93, 91], [(0, 94), (1, 92), (2, 94), (3, 94), (4, 94), (5, 94), (6, 94), (7, 94), (8, 94), (9, 94), (10, 92), (11, 94), (12, 92), (13, 92), (14, 92), (15, 92), (16, 94), (17, 92), (18, 94), (19, 92)]), 0), (92, (.iconst 1, []), 0), (93, (.ireturn, []), 0), (94, (.iconst 0, []), 0), (95, (.ireturn, []), 0)]
def mi_40 : rf_E1 := (mt_40, 3, cd_40)
def mt_41 : rf_Mt := (⟨"MemoryTransactions$Program", "open", "(IIII)I"⟩, prog_8_method_4_code, 6, (Option.some Jvm.ClassFile.FieldType.int))
def cd_41 : List (Nat × rf_I × Nat) := [(0, (.aload_n 0, []), 0), (1, (.getfield 45, [(1, 0)]), 18), (4, (.bipush 40, []), 0), (6, (.if_icmp .lt 5, [(0, 11)]), 0), (9, (.iconst (-1), []), 0), (10, (.ireturn, []), 0), (11, (.aload_n 0, []), 0), (12, (.getfield 45, [(1, 0)]), 18), (15, (.istore 5, []), 0), (17, (.aload_n 0, []), 0), (18, (.dup, []), 0), (19, (.getfield 45, [(1, 0)]), 18), (22, (.iconst 1, []), 0), (23, (.iadd, []), 0), (24, (.putfield 45, [(1, 0)]), 13), (27, (.aload_n 0, []), 0), (28, (.getfield 9, [(1, 5)]), 19), (31, (.iload 5, []), 0), (33, (.iload_n 1, []), 0), (34, (.iastore, []), 0), (35, (.aload_n 0, []), 0), (36, (.getfield 15, [(1, 6)]), 20), (39, (.iload 5, []), 0), (41, (.iconst 0, []), 0), (42, (.iastore, []), 0), (43, (.aload_n 0, []), 0), (44, (.getfield 18, [(1, 7)]), 21), (47, (.iload 5, []), 0), (49, (.aload_n 0, []), 0), (50, (.getfield 55, [(1, 3)]), 22), (53, (.iastore, []), 0), (54, (.aload_n 0, []), 0), (55, (.getfield 21, [(1, 8)]), 23), (58, (.iload 5, []), 0), (60, (.iload_n 2, []), 0), (61, (.iastore, []), 0), (62, (.aload_n 0, []), 0), (63, (.getfield 24, [(1, 9)]), 24), (66, (.iload 5, []), 0), (68, (.iload_n 3, []), 0), (69, (.iastore, []), 0), (70, (.aload_n 0, []), 0), (71, (.getfield 27, [(1, 10)]), 25), (74, (.iload 5, []), 0), (76, (.iload 4, []), 0), (78, (.iastore, []), 0), (79, (.aload_n 0, []), 0), (80, (.getfield 30, [(1, 11)]), 26), (83, (.iload 5, []), 0), (85, (.iconst (-1), []), 0), (86, (.iastore, []), 0), (87, (.aload_n 0, []), 0), (88, (.getfield 33, [(1, 12)]), 27), (91, (.iload 5, []), 0), (93, (.iconst (-1), []), 0), (94, (.iastore, []), 0), (95, (.aload_n 0, []), 0), (96, (.getfield 36, [(1, 13)]), 28), (99, (.iload 5, []), 0), (101, (.iconst (-1), []), 0), (102, (.iastore, []), 0), (103, (.iload 5, []), 0), (105, (.ireturn, []), 0)]
def mi_41 : rf_E1 := (mt_41, 2, cd_41)
def mt_42 : rf_Mt := (⟨"MemoryTransactions$Parser", "refuse", "()V"⟩, prog_7_method_4_code, 1, (Option.none : Option Jvm.ClassFile.FieldType))
def cd_42 : List (Nat × rf_I × Nat) := [(0, (.aload_n 0, []), 0), (1, (.getfield 32, [(2, 3)]), 17), (4, (.iconst (-1), []), 0), (5, (.if_icmp .ne 19, [(0, 24)]), 0), (8, (.aload_n 0, []), 0), (9, (.aload_n 0, []), 0), (10, (.getfield 12, [(2, 0)]), 12), (13, (.getfield 54, [(3, 1)]), 33), (16, (.aload_n 0, []), 0), (17, (.getfield 28, [(2, 2)]), 23), (20, (.iaload, []), 0), (21, (.putfield 32, [(2, 3)]), 10), (24, (.return_, []), 0)]
def mi_42 : rf_E1 := (mt_42, 3, cd_42)
def mt_43 : rf_Mt := (⟨"MemoryTransactions$Parser", "number", "()I"⟩, prog_7_method_6_code, 1, (Option.some Jvm.ClassFile.FieldType.int))
def cd_43 : List (Nat × rf_I × Nat) := [(0, (.aload_n 0, []), 0), (1, (.getfield 12, [(2, 0)]), 12), (4, (.getfield 61, [(3, 2)]), 34), (7, (.aload_n 0, []), 0), (8, (.getfield 28, [(2, 2)]), 23), (11, (.iaload, []), 0), (12, (.ireturn, []), 0)]
def mi_43 : rf_E1 := (mt_43, 3, cd_43)
def mt_44 : rf_Mt := (⟨"MemoryTransactions$Parser", "advance", "()V"⟩, prog_7_method_7_code, 1, (Option.none : Option Jvm.ClassFile.FieldType))
def cd_44 : List (Nat × rf_I × Nat) := [(0, (.aload_n 0, []), 0), (1, (.getfield 28, [(2, 2)]), 23), (4, (.aload_n 0, []), 0), (5, (.getfield 12, [(2, 0)]), 12), (8, (.getfield 64, [(3, 3)]), 35), (11, (.if_icmp .ge 13, [(0, 24)]), 0), (14, (.aload_n 0, []), 0), (15, (.dup, []), 0), (16, (.getfield 28, [(2, 2)]), 23), (19, (.iconst 1, []), 0), (20, (.iadd, []), 0), (21, (.putfield 28, [(2, 2)]), 9), (24, (.return_, []), 0)]
def mi_44 : rf_E1 := (mt_44, 3, cd_44)
def mt_45 : rf_Mt := (⟨"MemoryTransactions$Parser", "expect", "(I)V"⟩, prog_7_method_9_code, 2, (Option.none : Option Jvm.ClassFile.FieldType))
def cd_45 : List (Nat × rf_I × Nat) := [(0, (.aload_n 0, []), 0), (1, (.iload_n 1, []), 0), (2, (.invokevirtual 67, [(0, 1), (2, 37)]), 19), (5, (.ifCond .eq 10, [(0, 15)]), 0), (8, (.aload_n 0, []), 0), (9, (.invokevirtual 71, [(0, 0), (2, 44)]), 30), (12, (.goto 7, [(0, 19)]), 0), (15, (.aload_n 0, []), 0), (16, (.invokevirtual 74, [(0, 0), (2, 42)]), 27), (19, (.return_, []), 0)]
def mi_45 : rf_E1 := (mt_45, 3, cd_45)
def mt_46 : rf_Mt := (⟨"MemoryTransactions$Parser", "closedExp", "()V"⟩, prog_7_method_16_code, 1, (Option.none : Option Jvm.ClassFile.FieldType))
def cd_46 : List (Nat × rf_I × Nat) := [(0, (.aload_n 0, []), 0), (1, (.iconst 0, []), 0), (2, (.invokevirtual 111, [(0, 1), (2, 47)]), 36), (5, (.aload_n 0, []), 0), (6, (.getfield 21, [(2, 1)]), 7), (9, (.iconst 0, []), 0), (10, (.iconst 0, []), 0), (11, (.invokevirtual 114, [(0, 2), (1, 51)]), 37), (14, (.aload_n 0, []), 0), (15, (.bipush 59, []), 0), (17, (.invokevirtual 50, [(0, 1), (2, 45)]), 16), (20, (.return_, []), 0)]
def mi_46 : rf_E1 := (mt_46, 3, cd_46)
def mt_47 : rf_Mt := (⟨"MemoryTransactions$Parser", "exp", "(I)V"⟩, prog_7_method_17_code, 3, (Option.none : Option Jvm.ClassFile.FieldType))
def cd_47 : List (Nat × rf_I × Nat) := [(0, (.aload_n 0, []), 0), (1, (.iload_n 1, []), 0), (2, (.invokevirtual 142, [(0, 1), (2, 48)]), 38), (5, (.aload_n 0, []), 0), (6, (.bipush 60, []), 0), (8, (.invokevirtual 67, [(0, 1), (2, 37)]), 19), (11, (.ifCond .ne 21, [(0, 32)]), 0), (14, (.aload_n 0, []), 0), (15, (.bipush 61, []), 0), (17, (.invokevirtual 67, [(0, 1), (2, 37)]), 19), (20, (.ifCond .ne 12, [(0, 32)]), 0), (23, (.aload_n 0, []), 0), (24, (.bipush 35, []), 0), (26, (.invokevirtual 67, [(0, 1), (2, 37)]), 19), (29, (.ifCond .eq 26, [(0, 55)]), 0), (32, (.aload_n 0, []), 0), (33, (.invokevirtual 87, [(0, 0), (2, 39)]), 24), (36, (.istore_n 2, []), 0), (37, (.aload_n 0, []), 0), (38, (.invokevirtual 71, [(0, 0), (2, 44)]), 30), (41, (.aload_n 0, []), 0), (42, (.iload_n 1, []), 0), (43, (.invokevirtual 142, [(0, 1), (2, 48)]), 38), (46, (.aload_n 0, []), 0), (47, (.getfield 21, [(2, 1)]), 7), (50, (.iload_n 2, []), 0), (51, (.iconst 0, []), 0), (52, (.invokevirtual 114, [(0, 2), (1, 51)]), 37), (55, (.return_, []), 0)]
def mi_47 : rf_E1 := (mt_47, 3, cd_47)
def mt_48 : rf_Mt := (⟨"MemoryTransactions$Parser", "sum", "(I)V"⟩, prog_7_method_18_code, 4, (Option.none : Option Jvm.ClassFile.FieldType))
def cd_48 : List (Nat × rf_I × Nat) := [(0, (.aload_n 0, []), 0), (1, (.iload_n 1, []), 0), (2, (.invokevirtual 145, [(0, 1), (2, 49)]), 39), (5, (.iconst 0, []), 0), (6, (.istore_n 2, []), 0), (7, (.iload_n 2, []), 0), (8, (.bipush 60, []), 0), (10, (.if_icmp .ge 50, [(0, 60)]), 0), (13, (.aload_n 0, []), 0), (14, (.bipush 43, []), 0), (16, (.invokevirtual 67, [(0, 1), (2, 37)]), 19), (19, (.ifCond .ne 12, [(0, 31)]), 0), (22, (.aload_n 0, []), 0), (23, (.bipush 45, []), 0), (25, (.invokevirtual 67, [(0, 1), (2, 37)]), 19), (28, (.ifCond .eq 32, [(0, 60)]), 0), (31, (.aload_n 0, []), 0), (32, (.invokevirtual 87, [(0, 0), (2, 39)]), 24), (35, (.istore_n 3, []), 0), (36, (.aload_n 0, []), 0), (37, (.invokevirtual 71, [(0, 0), (2, 44)]), 30), (40, (.aload_n 0, []), 0), (41, (.iload_n 1, []), 0), (42, (.invokevirtual 145, [(0, 1), (2, 49)]), 39), (45, (.aload_n 0, []), 0), (46, (.getfield 21, [(2, 1)]), 7), (49, (.iload_n 3, []), 0), (50, (.iconst 0, []), 0), (51, (.invokevirtual 114, [(0, 2), (1, 51)]), 37), (54, (.iinc 2 1, []), 0), (57, (.goto (-50), [(0, 7)]), 0), (60, (.return_, []), 0)]
def mi_48 : rf_E1 := (mt_48, 3, cd_48)
def mt_49 : rf_Mt := (⟨"MemoryTransactions$Parser", "product", "(I)V"⟩, prog_7_method_19_code, 4, (Option.none : Option Jvm.ClassFile.FieldType))
def cd_49 : List (Nat × rf_I × Nat) := [(0, (.aload_n 0, []), 0), (1, (.iload_n 1, []), 0), (2, (.invokevirtual 148, [(0, 1), (2, 50)]), 40), (5, (.iconst 0, []), 0), (6, (.istore_n 2, []), 0), (7, (.iload_n 2, []), 0), (8, (.bipush 60, []), 0), (10, (.if_icmp .ge 59, [(0, 69)]), 0), (13, (.aload_n 0, []), 0), (14, (.bipush 42, []), 0), (16, (.invokevirtual 67, [(0, 1), (2, 37)]), 19), (19, (.ifCond .ne 21, [(0, 40)]), 0), (22, (.aload_n 0, []), 0), (23, (.bipush 47, []), 0), (25, (.invokevirtual 67, [(0, 1), (2, 37)]), 19), (28, (.ifCond .ne 12, [(0, 40)]), 0), (31, (.aload_n 0, []), 0), (32, (.bipush 37, []), 0), (34, (.invokevirtual 67, [(0, 1), (2, 37)]), 19), (37, (.ifCond .eq 32, [(0, 69)]), 0), (40, (.aload_n 0, []), 0), (41, (.invokevirtual 87, [(0, 0), (2, 39)]), 24), (44, (.istore_n 3, []), 0), (45, (.aload_n 0, []), 0), (46, (.invokevirtual 71, [(0, 0), (2, 44)]), 30), (49, (.aload_n 0, []), 0), (50, (.iload_n 1, []), 0), (51, (.invokevirtual 148, [(0, 1), (2, 50)]), 40), (54, (.aload_n 0, []), 0), (55, (.getfield 21, [(2, 1)]), 7), (58, (.iload_n 3, []), 0), (59, (.iconst 0, []), 0), (60, (.invokevirtual 114, [(0, 2), (1, 51)]), 37), (63, (.iinc 2 1, []), 0), (66, (.goto (-59), [(0, 7)]), 0), (69, (.return_, []), 0)]
def mi_49 : rf_E1 := (mt_49, 3, cd_49)
def mt_50 : rf_Mt := (⟨"MemoryTransactions$Parser", "unary", "(I)V"⟩, prog_7_method_20_code, 2, (Option.none : Option Jvm.ClassFile.FieldType))
def cd_50 : List (Nat × rf_I × Nat) := [(0, (.aload_n 0, []), 0), (1, (.invokevirtual 77, [(0, 0), (2, 36)]), 18), (4, (.ifCond .ne 15, [(0, 19)]), 0), (7, (.aload_n 0, []), 0), (8, (.getfield 21, [(2, 1)]), 7), (11, (.getfield 151, [(1, 1)]), 41), (14, (.bipush 60, []), 0), (16, (.if_icmp .lt 8, [(0, 24)]), 0), (19, (.aload_n 0, []), 0), (20, (.invokevirtual 74, [(0, 0), (2, 42)]), 27), (23, (.return_, []), 0), (24, (.aload_n 0, []), 0), (25, (.getfield 21, [(2, 1)]), 7), (28, (.dup, []), 0), (29, (.getfield 151, [(1, 1)]), 41), (32, (.iconst 1, []), 0), (33, (.iadd, []), 0), (34, (.putfield 151, [(1, 1)]), 42), (37, (.aload_n 0, []), 0), (38, (.iconst 2, []), 0), (39, (.invokevirtual 67, [(0, 1), (2, 37)]), 19), (42, (.ifCond .eq 22, [(0, 64)]), 0), (45, (.aload_n 0, []), 0), (46, (.getfield 21, [(2, 1)]), 7), (49, (.iconst 1, []), 0), (50, (.aload_n 0, []), 0), (51, (.invokevirtual 101, [(0, 0), (2, 43)]), 29), (54, (.invokevirtual 114, [(0, 2), (1, 51)]), 37), (57, (.aload_n 0, []), 0), (58, (.invokevirtual 71, [(0, 0), (2, 44)]), 30), (61, (.goto 124, [(0, 185)]), 0), (64, (.aload_n 0, []), 0), (65, (.iconst 1, []), 0), (66, (.invokevirtual 67, [(0, 1), (2, 37)]), 19), (69, (.ifCond .eq 39, [(0, 108)]), 0), (72, (.aload_n 0, []), 0), (73, (.invokevirtual 101, [(0, 0), (2, 43)]), 29), (76, (.invokestatic 130, [(0, 1), (0, 52)]), 43), (79, (.ifCond .ne 10, [(0, 89)]), 0), (82, (.aload_n 0, []), 0), (83, (.getfield 35, [(2, 4)]), 44), (86, (.ifCond .ne 22, [(0, 108)]), 0), (89, (.aload_n 0, []), 0), (90, (.getfield 21, [(2, 1)]), 7), (93, (.iconst 2, []), 0), (94, (.aload_n 0, []), 0), (95, (.invokevirtual 101, [(0, 0), (2, 43)]), 29), (98, (.invokevirtual 114, [(0, 2), (1, 51)]), 37), (101, (.aload_n 0, []), 0), (102, (.invokevirtual 71, [(0, 0), (2, 44)]), 30), (105, (.goto 80, [(0, 185)]), 0), (108, (.aload_n 0, []), 0), (109, (.bipush 45, []), 0), (111, (.invokevirtual 67, [(0, 1), (2, 37)]), 19), (114, (.ifCond .eq 32, [(0, 146)]), 0), (117, (.iload_n 1, []), 0), (118, (.bipush 8, []), 0), (120, (.if_icmp .ge 26, [(0, 146)]), 0), (123, (.aload_n 0, []), 0), (124, (.invokevirtual 71, [(0, 0), (2, 44)]), 30), (127, (.aload_n 0, []), 0), (128, (.iload_n 1, []), 0), (129, (.iconst 1, []), 0), (130, (.iadd, []), 0), (131, (.invokevirtual 148, [(0, 1), (2, 50)]), 40), (134, (.aload_n 0, []), 0), (135, (.getfield 21, [(2, 1)]), 7), (138, (.iconst 3, []), 0), (139, (.iconst 0, []), 0), (140, (.invokevirtual 114, [(0, 2), (1, 51)]), 37), (143, (.goto 42, [(0, 185)]), 0), (146, (.aload_n 0, []), 0), (147, (.bipush 40, []), 0), (149, (.invokevirtual 67, [(0, 1), (2, 37)]), 19), (152, (.ifCond .eq 29, [(0, 181)]), 0), (155, (.iload_n 1, []), 0), (156, (.bipush 8, []), 0), (158, (.if_icmp .ge 23, [(0, 181)]), 0), (161, (.aload_n 0, []), 0), (162, (.invokevirtual 71, [(0, 0), (2, 44)]), 30), (165, (.aload_n 0, []), 0), (166, (.iload_n 1, []), 0), (167, (.iconst 1, []), 0), (168, (.iadd, []), 0), (169, (.invokevirtual 111, [(0, 1), (2, 47)]), 36), (172, (.aload_n 0, []), 0), (173, (.bipush 41, []), 0), (175, (.invokevirtual 50, [(0, 1), (2, 45)]), 16), (178, (.goto 7, [(0, 185)]), 0), (181, (.aload_n 0, []), 0), (182, (.invokevirtual 74, [(0, 0), (2, 42)]), 27), (185, (.return_, []), 0)]
def mi_50 : rf_E1 := (mt_50, 3, cd_50)
def mt_51 : rf_Mt := (⟨"MemoryTransactions$Program", "emit", "(II)V"⟩, prog_8_method_5_code, 3, (Option.none : Option Jvm.ClassFile.FieldType))
def cd_51 : List (Nat × rf_I × Nat) := [(0, (.aload_n 0, []), 0), (1, (.getfield 55, [(1, 3)]), 22), (4, (.sipush 160, []), 0), (7, (.if_icmp .ge 33, [(0, 40)]), 0), (10, (.aload_n 0, []), 0), (11, (.getfield 39, [(1, 14)]), 29), (14, (.aload_n 0, []), 0), (15, (.getfield 55, [(1, 3)]), 22), (18, (.iload_n 1, []), 0), (19, (.iastore, []), 0), (20, (.aload_n 0, []), 0), (21, (.getfield 42, [(1, 15)]), 30), (24, (.aload_n 0, []), 0), (25, (.getfield 55, [(1, 3)]), 22), (28, (.iload_n 2, []), 0), (29, (.iastore, []), 0), (30, (.aload_n 0, []), 0), (31, (.dup, []), 0), (32, (.getfield 55, [(1, 3)]), 22), (35, (.iconst 1, []), 0), (36, (.iadd, []), 0), (37, (.putfield 55, [(1, 3)]), 16), (40, (.return_, []), 0)]
def mi_51 : rf_E1 := (mt_51, 2, cd_51)
def mt_52 : rf_Mt := (⟨"MemoryTransactions", "isCell", "(I)Z"⟩, prog_1_method_24_code, 1, (Option.some Jvm.ClassFile.FieldType.boolean))
def cd_52 : List (Nat × rf_I × Nat) := [(0, (.iload_n 0, []), 0), (1, (.ifCond .lt 13, [(0, 14)]), 0), (4, (.iload_n 0, []), 0), (5, (.bipush 16, []), 0), (7, (.if_icmp .ge 7, [(0, 14)]), 0), (10, (.iconst 1, []), 0), (11, (.goto 4, [(0, 15)]), 0), (14, (.iconst 0, []), 0), (15, (.ireturn, []), 0)]
def mi_52 : rf_E1 := (mt_52, 1, cd_52)
def mt_53 : rf_Mt := (⟨"MemoryTransactions$Parser", "compound", "(III)V"⟩, prog_7_method_13_code, 4, (Option.none : Option Jvm.ClassFile.FieldType))
def cd_53 : List (Nat × rf_I × Nat) := [(0, (.iload_n 1, []), 0), (1, (.bipush 10, []), 0), (3, (.if_icmp .eq 9, [(0, 12)]), 0), (6, (.iload_n 1, []), 0), (7, (.bipush 12, []), 0), (9, (.if_icmp .ne 29, [(0, 38)]), 0), (12, (.aload_n 0, []), 0), (13, (.bipush 40, []), 0), (15, (.invokevirtual 50, [(0, 1), (2, 45)]), 16), (18, (.aload_n 0, []), 0), (19, (.iconst 0, []), 0), (20, (.invokevirtual 111, [(0, 1), (2, 47)]), 36), (23, (.aload_n 0, []), 0), (24, (.getfield 21, [(2, 1)]), 7), (27, (.iconst 0, []), 0), (28, (.iconst 0, []), 0), (29, (.invokevirtual 114, [(0, 2), (1, 51)]), 37), (32, (.aload_n 0, []), 0), (33, (.bipush 41, []), 0), (35, (.invokevirtual 50, [(0, 1), (2, 45)]), 16), (38, (.aload_n 0, []), 0), (39, (.getfield 21, [(2, 1)]), 7), (42, (.getfield 118, [(1, 12)]), 45), (45, (.iload_n 2, []), 0), (46, (.aload_n 0, []), 0), (47, (.iload_n 2, []), 0), (48, (.iconst 0, []), 0), (49, (.iload_n 3, []), 0), (50, (.invokevirtual 121, [(0, 3), (2, 54)]), 46), (53, (.iastore, []), 0), (54, (.iload_n 1, []), 0), (55, (.bipush 10, []), 0), (57, (.if_icmp .ne 32, [(0, 89)]), 0), (60, (.aload_n 0, []), 0), (61, (.bipush 11, []), 0), (63, (.invokevirtual 67, [(0, 1), (2, 37)]), 19), (66, (.ifCond .eq 23, [(0, 89)]), 0), (69, (.aload_n 0, []), 0), (70, (.invokevirtual 71, [(0, 0), (2, 44)]), 30), (73, (.aload_n 0, []), 0), (74, (.getfield 21, [(2, 1)]), 7), (77, (.getfield 124, [(1, 13)]), 47), (80, (.iload_n 2, []), 0), (81, (.aload_n 0, []), 0), (82, (.iload_n 2, []), 0), (83, (.iconst 1, []), 0), (84, (.iload_n 3, []), 0), (85, (.invokevirtual 121, [(0, 3), (2, 54)]), 46), (88, (.iastore, []), 0), (89, (.iload_n 1, []), 0), (90, (.bipush 15, []), 0), (92, (.if_icmp .ne 25, [(0, 117)]), 0), (95, (.aload_n 0, []), 0), (96, (.bipush 16, []), 0), (98, (.invokevirtual 50, [(0, 1), (2, 45)]), 16), (101, (.aload_n 0, []), 0), (102, (.getfield 21, [(2, 1)]), 7), (105, (.getfield 124, [(1, 13)]), 47), (108, (.iload_n 2, []), 0), (109, (.aload_n 0, []), 0), (110, (.iload_n 2, []), 0), (111, (.iconst 1, []), 0), (112, (.iload_n 3, []), 0), (113, (.invokevirtual 121, [(0, 3), (2, 54)]), 46), (116, (.iastore, []), 0), (117, (.iload_n 1, []), 0), (118, (.bipush 17, []), 0), (120, (.if_icmp .ne 38, [(0, 158)]), 0), (123, (.aload_n 0, []), 0), (124, (.bipush 18, []), 0), (126, (.invokevirtual 50, [(0, 1), (2, 45)]), 16), (129, (.aload_n 0, []), 0), (130, (.getfield 21, [(2, 1)]), 7), (133, (.getfield 98, [(1, 6)]), 28), (136, (.iload_n 2, []), 0), (137, (.aload_n 0, []), 0), (138, (.invokevirtual 127, [(0, 0), (2, 55)]), 48), (141, (.iastore, []), 0), (142, (.aload_n 0, []), 0), (143, (.getfield 21, [(2, 1)]), 7), (146, (.getfield 124, [(1, 13)]), 47), (149, (.iload_n 2, []), 0), (150, (.aload_n 0, []), 0), (151, (.iload_n 2, []), 0), (152, (.iconst 1, []), 0), (153, (.iload_n 3, []), 0), (154, (.invokevirtual 121, [(0, 3), (2, 54)]), 46), (157, (.iastore, []), 0), (158, (.return_, []), 0)]
def mi_53 : rf_E1 := (mt_53, 3, cd_53)
def mt_54 : rf_Mt := (⟨"MemoryTransactions$Parser", "body", "(III)I"⟩, prog_7_method_15_code, 5, (Option.some Jvm.ClassFile.FieldType.int))
def cd_54 : List (Nat × rf_I × Nat) := [(0, (.aload_n 0, []), 0), (1, (.bipush 123, []), 0), (3, (.invokevirtual 67, [(0, 1), (2, 37)]), 19), (6, (.ifCond .eq 9, [(0, 15)]), 0), (9, (.iload_n 3, []), 0), (10, (.bipush 8, []), 0), (12, (.if_icmp .lt 9, [(0, 21)]), 0), (15, (.aload_n 0, []), 0), (16, (.invokevirtual 74, [(0, 0), (2, 42)]), 27), (19, (.iconst (-1), []), 0), (20, (.ireturn, []), 0), (21, (.aload_n 0, []), 0), (22, (.invokevirtual 71, [(0, 0), (2, 44)]), 30), (25, (.aload_n 0, []), 0), (26, (.getfield 21, [(2, 1)]), 7), (29, (.aload_n 0, []), 0), (30, (.getfield 21, [(2, 1)]), 7), (33, (.getfield 133, [(1, 2)]), 49), (36, (.iload_n 3, []), 0), (37, (.iconst 1, []), 0), (38, (.iadd, []), 0), (39, (.invokestatic 136, [(13, 0)]), 50), (42, (.putfield 133, [(1, 2)]), 51), (45, (.aload_n 0, []), 0), (46, (.iload_n 1, []), 0), (47, (.iload_n 2, []), 0), (48, (.iload_n 3, []), 0), (49, (.iconst 1, []), 0), (50, (.iadd, []), 0), (51, (.invokevirtual 43, [(0, 3), (2, 35)]), 14), (54, (.istore 4, []), 0), (56, (.aload_n 0, []), 0), (57, (.bipush 125, []), 0), (59, (.invokevirtual 50, [(0, 1), (2, 45)]), 16), (62, (.iload 4, []), 0), (64, (.ireturn, []), 0)]
def mi_54 : rf_E1 := (mt_54, 3, cd_54)
def mt_55 : rf_Mt := (⟨"MemoryTransactions$Parser", "local", "()I"⟩, prog_7_method_14_code, 2, (Option.some Jvm.ClassFile.FieldType.int))
def cd_55 : List (Nat × rf_I × Nat) := [(0, (.aload_n 0, []), 0), (1, (.invokevirtual 101, [(0, 0), (2, 43)]), 29), (4, (.istore_n 1, []), 0), (5, (.aload_n 0, []), 0), (6, (.iconst 1, []), 0), (7, (.invokevirtual 67, [(0, 1), (2, 37)]), 19), (10, (.ifCond .eq 10, [(0, 20)]), 0), (13, (.iload_n 1, []), 0), (14, (.invokestatic 130, [(0, 1), (0, 52)]), 43), (17, (.ifCond .eq 10, [(0, 27)]), 0), (20, (.aload_n 0, []), 0), (21, (.invokevirtual 74, [(0, 0), (2, 42)]), 27), (24, (.bipush 16, []), 0), (26, (.ireturn, []), 0), (27, (.aload_n 0, []), 0), (28, (.invokevirtual 71, [(0, 0), (2, 44)]), 30), (31, (.iload_n 1, []), 0), (32, (.ireturn, []), 0)]
def mi_55 : rf_E1 := (mt_55, 3, cd_55)
def mt_56 : rf_Mt := (⟨"MemoryTransactions", "place", "()I"⟩, prog_1_method_5_code, 1, (Option.some Jvm.ClassFile.FieldType.int))
def cd_56 : List (Nat × rf_I × Nat) := [(0, (.aload_n 0, []), 0), (1, (.getfield 27, [(0, 4)]), 35), (4, (.ireturn, []), 0)]
def mi_56 : rf_E1 := (mt_56, 1, cd_56)
def mt_57 : rf_Mt := (⟨"MemoryTransactions", "told", "(II)I"⟩, prog_1_method_6_code, 4, (Option.some Jvm.ClassFile.FieldType.int))
def cd_57 : List (Nat × rf_I × Nat) := [(0, (.aload_n 0, []), 0), (1, (.iload_n 1, []), 0), (2, (.invokevirtual 77, [(0, 1), (0, 58)]), 36), (5, (.ifCond .ne 5, [(0, 10)]), 0), (8, (.iconst (-1), []), 0), (9, (.ireturn, []), 0), (10, (.aload_n 0, []), 0), (11, (.getfield 19, [(0, 2)]), 6), (14, (.iload_n 1, []), 0), (15, (.aaload, []), 0), (16, (.astore_n 3, []), 0), (17, (.iload_n 2, []), 0), (18, (.tableswitch 41 0 2 #[26, 31, 36], [(0, 59), (0, 44), (1, 49), (2, 54)]), 0), (44, (.aload_n 3, []), 0), (45, (.getfield 81, [(1, 0)]), 37), (48, (.ireturn, []), 0), (49, (.aload_n 3, []), 0), (50, (.getfield 84, [(1, 1)]), 38), (53, (.ireturn, []), 0), (54, (.aload_n 3, []), 0), (55, (.getfield 87, [(1, 2)]), 39), (58, (.ireturn, []), 0), (59, (.iconst (-1), []), 0), (60, (.ireturn, []), 0)]
def mi_57 : rf_E1 := (mt_57, 1, cd_57)
def mt_58 : rf_Mt := (⟨"MemoryTransactions", "isTransaction", "(I)Z"⟩, prog_1_method_22_code, 2, (Option.some Jvm.ClassFile.FieldType.boolean))
def cd_58 : List (Nat × rf_I × Nat) := [(0, (.iload_n 1, []), 0), (1, (.ifCond .lt 15, [(0, 16)]), 0), (4, (.iload_n 1, []), 0), (5, (.aload_n 0, []), 0), (6, (.getfield 24, [(0, 3)]), 32), (9, (.if_icmp .ge 7, [(0, 16)]), 0), (12, (.iconst 1, []), 0), (13, (.goto 4, [(0, 17)]), 0), (16, (.iconst 0, []), 0), (17, (.ireturn, []), 0)]
def mi_58 : rf_E1 := (mt_58, 1, cd_58)
def mt_59 : rf_Mt := (⟨"MemoryTransactions", "put", "(IJ)I"⟩, prog_1_method_7_code, 4, (Option.some Jvm.ClassFile.FieldType.int))
def cd_59 : List (Nat × rf_I × Nat) := [(0, (.iload_n 1, []), 0), (1, (.invokestatic 90, [(0, 1), (0, 52)]), 40), (4, (.ifCond .eq 13, [(0, 17)]), 0), (7, (.aload_n 0, []), 0), (8, (.getfield 56, [(0, 8)]), 41), (11, (.invokevirtual 93, [(0, 0), (9, 60)]), 42), (14, (.ifCond .eq 5, [(0, 19)]), 0), (17, (.iconst (-1), []), 0), (18, (.ireturn, []), 0), (19, (.aload_n 0, []), 0), (20, (.getfield 40, [(0, 6)]), 21), (23, (.iload_n 1, []), 0), (24, (.lload_n 2, []), 0), (25, (.invokevirtual 97, [(0, 2), (4, 61)]), 43), (28, (.ifCond .ne 6, [(0, 34)]), 0), (31, (.bipush (-2), []), 0), (33, (.ireturn, []), 0), (34, (.aload_n 0, []), 0), (35, (.getfield 40, [(0, 6)]), 21), (38, (.iload_n 1, []), 0), (39, (.lload_n 2, []), 0), (40, (.invokevirtual 101, [(0, 2), (4, 77)]), 44), (43, (.aload_n 0, []), 0), (44, (.getfield 56, [(0, 8)]), 41), (47, (.iconst 0, []), 0), (48, (.iconst (-1), []), 0), (49, (.iload_n 1, []), 0), (50, (.iconst 0, []), 0), (51, (.iconst 0, []), 0), (52, (.lload_n 2, []), 0), (53, (.invokevirtual 105, [(0, 6), (9, 78)]), 45), (56, (.aload_n 0, []), 0), (57, (.getfield 40, [(0, 6)]), 21), (60, (.getfield 109, [(4, 1)]), 46), (63, (.iload_n 1, []), 0), (64, (.iaload, []), 0), (65, (.ireturn, []), 0)]
def mi_59 : rf_E1 := (mt_59, 1, cd_59)
def mt_60 : rf_Mt := (⟨"MemoryTransactions$Journal", "isFull", "()Z"⟩, prog_5_method_2_code, 1, (Option.some Jvm.ClassFile.FieldType.boolean))
def cd_60 : List (Nat × rf_I × Nat) := [(0, (.aload_n 0, []), 0), (1, (.getfield 31, [(9, 0)]), 9), (4, (.sipush 300, []), 0), (7, (.if_icmp .lt 7, [(0, 14)]), 0), (10, (.iconst 1, []), 0), (11, (.goto 4, [(0, 15)]), 0), (14, (.iconst 0, []), 0), (15, (.ireturn, []), 0)]
def mi_60 : rf_E1 := (mt_60, 11, cd_60)
def mt_61 : rf_Mt := (⟨"MemoryTransactions$Store", "allows", "(IJ)Z"⟩, prog_12_method_6_code, 4, (Option.some Jvm.ClassFile.FieldType.boolean))
def cd_61 : List (Nat × rf_I × Nat) := [(0, (.aload_n 0, []), 0), (1, (.getfield 9, [(4, 0)]), 12), (4, (.iconst 0, []), 0), (5, (.aload_n 0, []), 0), (6, (.getfield 28, [(4, 5)]), 13), (9, (.iconst 0, []), 0), (10, (.bipush 16, []), 0), (12, (.invokestatic 59, [(11, 0)]), 14), (15, (.iload_n 1, []), 0), (16, (.invokestatic 55, [(0, 1), (0, 52)]), 15), (19, (.ifCond .eq 10, [(0, 29)]), 0), (22, (.aload_n 0, []), 0), (23, (.getfield 28, [(4, 5)]), 13), (26, (.iload_n 1, []), 0), (27, (.lload_n 2, []), 0), (28, (.lastore, []), 0), (29, (.aload_n 0, []), 0), (30, (.invokevirtual 65, [(0, 0), (4, 62)]), 16), (33, (.ireturn, []), 0)]
def mi_61 : rf_E1 := (mt_61, 5, cd_61)
def mt_62 : rf_Mt := (⟨"MemoryTransactions$Store", "holdAhead", "()Z"⟩, prog_12_method_8_code, 2, (Option.some Jvm.ClassFile.FieldType.boolean))
def cd_62 : List (Nat × rf_I × Nat) := [(0, (.iconst 0, []), 0), (1, (.istore_n 1, []), 0), (2, (.iload_n 1, []), 0), (3, (.aload_n 0, []), 0), (4, (.getfield 47, [(4, 2)]), 17), (7, (.if_icmp .ge 30, [(0, 37)]), 0), (10, (.aload_n 0, []), 0), (11, (.aload_n 0, []), 0), (12, (.getfield 21, [(4, 3)]), 18), (15, (.iload_n 1, []), 0), (16, (.aaload, []), 0), (17, (.aload_n 0, []), 0), (18, (.getfield 25, [(4, 4)]), 19), (21, (.iload_n 1, []), 0), (22, (.iaload, []), 0), (23, (.invokevirtual 81, [(0, 2), (4, 63)]), 20), (26, (.ifCond .ne 5, [(0, 31)]), 0), (29, (.iconst 0, []), 0), (30, (.ireturn, []), 0), (31, (.iinc 1 1, []), 0), (34, (.goto (-32), [(0, 2)]), 0), (37, (.iconst 1, []), 0), (38, (.ireturn, []), 0)]
def mi_62 : rf_E1 := (mt_62, 5, cd_62)
def mt_63 : rf_Mt := (⟨"MemoryTransactions$Store", "holdsAhead", "(LMemoryTransactions$Program;I)Z"⟩, prog_12_method_9_code, 3, (Option.some Jvm.ClassFile.FieldType.boolean))
def cd_63 : List (Nat × rf_I × Nat) := [(0, (.aload_n 1, []), 0), (1, (.ifnull 11, [(0, 12)]), 0), (4, (.aload_n 1, []), 0), (5, (.iload_n 2, []), 0), (6, (.invokevirtual 89, [(0, 1), (1, 64)]), 21), (9, (.ifCond .ne 5, [(0, 14)]), 0), (12, (.iconst 0, []), 0), (13, (.ireturn, []), 0), (14, (.aload_n 0, []), 0), (15, (.getfield 34, [(4, 6)]), 22), (18, (.aload_n 1, []), 0), (19, (.aload_n 1, []), 0), (20, (.getfield 92, [(1, 7)]), 23), (23, (.iload_n 2, []), 0), (24, (.iaload, []), 0), (25, (.aload_n 0, []), 0), (26, (.invokevirtual 95, [(0, 3), (5, 65)]), 24), (29, (.ifCond .ne 19, [(0, 48)]), 0), (32, (.aload_n 0, []), 0), (33, (.getfield 34, [(4, 6)]), 22), (36, (.invokevirtual 99, [(0, 0), (5, 76)]), 25), (39, (.lconst 0, []), 0), (40, (.lcmp, []), 0), (41, (.ifCond .eq 7, [(0, 48)]), 0), (44, (.iconst 1, []), 0), (45, (.goto 4, [(0, 49)]), 0), (48, (.iconst 0, []), 0), (49, (.ireturn, []), 0)]
def mi_63 : rf_E1 := (mt_63, 5, cd_63)
def mt_64 : rf_Mt := (⟨"MemoryTransactions$Program", "has", "(I)Z"⟩, prog_8_method_3_code, 2, (Option.some Jvm.ClassFile.FieldType.boolean))
def cd_64 : List (Nat × rf_I × Nat) := [(0, (.iload_n 1, []), 0), (1, (.ifCond .lt 15, [(0, 16)]), 0), (4, (.iload_n 1, []), 0), (5, (.aload_n 0, []), 0), (6, (.getfield 45, [(1, 0)]), 18), (9, (.if_icmp .ge 7, [(0, 16)]), 0), (12, (.iconst 1, []), 0), (13, (.goto 4, [(0, 17)]), 0), (16, (.iconst 0, []), 0), (17, (.ireturn, []), 0)]
def mi_64 : rf_E1 := (mt_64, 2, cd_64)
def mt_65 : rf_Mt := (⟨"MemoryTransactions$Calculator", "work", "(LMemoryTransactions$Program;ILMemoryTransactions$Letters;)I"⟩, prog_2_method_2_code, 10, (Option.some Jvm.ClassFile.FieldType.int))
def cd_65 : List (Nat × rf_I × Nat) := [(0, (.aload_n 0, []), 0), (1, (.iconst 0, []), 0), (2, (.putfield 15, [(5, 1)]), 3), (5, (.iload_n 2, []), 0), (6, (.istore 4, []), 0), (8, (.iload 4, []), 0), (10, (.ifCond .lt 154, [(0, 164)]), 0), (13, (.iload 4, []), 0), (15, (.aload_n 1, []), 0), (16, (.getfield 19, [(1, 3)]), 4), (19, (.if_icmp .ge 145, [(0, 164)]), 0), (22, (.aload_n 1, []), 0), (23, (.getfield 24, [(1, 14)]), 5), (26, (.iload 4, []), 0), (28, (.iaload, []), 0), (29, (.istore 5, []), 0), (31, (.iload 5, []), 0), (33, (.ifCond .ne 5, [(0, 38)]), 0), (36, (.iconst 0, []), 0), (37, (.ireturn, []), 0), (38, (.iload 5, []), 0), (40, (.iconst 1, []), 0), (41, (.if_icmp .ne 18, [(0, 59)]), 0), (44, (.aload_n 0, []), 0), (45, (.aload_n 1, []), 0), (46, (.getfield 28, [(1, 15)]), 6), (49, (.iload 4, []), 0), (51, (.iaload, []), 0), (52, (.i2l, []), 0), (53, (.invokevirtual 31, [(0, 1), (5, 66)]), 7), (56, (.goto 102, [(0, 158)]), 0), (59, (.iload 5, []), 0), (61, (.iconst 2, []), 0), (62, (.if_icmp .ne 30, [(0, 92)]), 0), (65, (.aload_n 3, []), 0), (66, (.aload_n 1, []), 0), (67, (.getfield 28, [(1, 15)]), 6), (70, (.iload 4, []), 0), (72, (.iaload, []), 0), (73, (.invokevirtual 35, [(0, 1), (7, 67), (4, 73)]), 8), (76, (.ifCond .ne 5, [(0, 81)]), 0), (79, (.iconst 1, []), 0), (80, (.ireturn, []), 0), (81, (.aload_n 0, []), 0), (82, (.aload_n 3, []), 0), (83, (.getfield 41, [(4, 7), (7, 10)]), 9), (86, (.invokevirtual 31, [(0, 1), (5, 66)]), 7), (89, (.goto 69, [(0, 158)]), 0), (92, (.iload 5, []), 0), (94, (.iconst 3, []), 0), (95, (.if_icmp .ne 15, [(0, 110)]), 0), (98, (.aload_n 0, []), 0), (99, (.aload_n 0, []), 0), (100, (.invokevirtual 45, [(0, 0), (5, 74)]), 10), (103, (.lneg, []), 0), (104, (.invokevirtual 31, [(0, 1), (5, 66)]), 7), (107, (.goto 51, [(0, 158)]), 0), (110, (.aload_n 0, []), 0), (111, (.invokevirtual 45, [(0, 0), (5, 74)]), 10), (114, (.lstore 6, []), 0), (116, (.aload_n 0, []), 0), (117, (.invokevirtual 45, [(0, 0), (5, 74)]), 10), (120, (.lstore 8, []), 0), (122, (.lload 6, []), 0), (124, (.lconst 0, []), 0), (125, (.lcmp, []), 0), (126, (.ifCond .ne 19, [(0, 145)]), 0), (129, (.iload 5, []), 0), (131, (.bipush 47, []), 0), (133, (.if_icmp .eq 10, [(0, 143)]), 0), (136, (.iload 5, []), 0), (138, (.bipush 37, []), 0), (140, (.if_icmp .ne 5, [(0, 145)]), 0), (143, (.iconst 2, []), 0), (144, (.ireturn, []), 0), (145, (.aload_n 0, []), 0), (146, (.iload 5, []), 0), (148, (.lload 8, []), 0), (150, (.lload 6, []), 0), (152, (.invokestatic 49, [(0, 3), (0, 75)]), 11), (155, (.invokevirtual 31, [(0, 1), (5, 66)]), 7), (158, (.iinc 4 1, []), 0), (161, (.goto (-153), [(0, 8)]), 0), (164, (.iconst 0, []), 0), (165, (.ireturn, []), 0)]
def mi_65 : rf_E1 := (mt_65, 7, cd_65)
def mt_66 : rf_Mt := (⟨"MemoryTransactions$Calculator", "push", "(J)V"⟩, prog_2_method_4_code, 3, (Option.none : Option Jvm.ClassFile.FieldType))
def cd_66 : List (Nat × rf_I × Nat) := [(0, (.aload_n 0, []), 0), (1, (.getfield 15, [(5, 1)]), 12), (4, (.bipush 60, []), 0), (6, (.if_icmp .ge 23, [(0, 29)]), 0), (9, (.aload_n 0, []), 0), (10, (.getfield 9, [(5, 0)]), 13), (13, (.aload_n 0, []), 0), (14, (.getfield 15, [(5, 1)]), 12), (17, (.lload_n 1, []), 0), (18, (.lastore, []), 0), (19, (.aload_n 0, []), 0), (20, (.dup, []), 0), (21, (.getfield 15, [(5, 1)]), 12), (24, (.iconst 1, []), 0), (25, (.iadd, []), 0), (26, (.putfield 15, [(5, 1)]), 3), (29, (.return_, []), 0)]
def mi_66 : rf_E1 := (mt_66, 7, cd_66)
def mt_67 : rf_Mt := (⟨"MemoryTransactions$Run", "find", "(I)Z"⟩, prog_10_method_8_code, 2, (Option.some Jvm.ClassFile.FieldType.boolean))
def cd_67 : List (Nat × rf_I × Nat) := [(0, (.iload_n 1, []), 0), (1, (.invokestatic 139, [(0, 1), (0, 52)]), 13), (4, (.ifCond .eq 22, [(0, 26)]), 0), (7, (.aload_n 0, []), 0), (8, (.getfield 18, [(7, 5)]), 14), (11, (.iload_n 1, []), 0), (12, (.invokevirtual 142, [(0, 1), (8, 68)]), 15), (15, (.ifCond .ne 11, [(0, 26)]), 0), (18, (.aload_n 0, []), 0), (19, (.iload_n 1, []), 0), (20, (.invokevirtual 145, [(0, 1), (7, 69)]), 16), (23, (.ifCond .eq 14, [(0, 37)]), 0), (26, (.aload_n 0, []), 0), (27, (.aload_n 0, []), 0), (28, (.iload_n 1, []), 0), (29, (.invokevirtual 148, [(0, 1), (7, 70)]), 17), (32, (.putfield 152, [(7, 10)]), 18), (35, (.iconst 1, []), 0), (36, (.ireturn, []), 0), (37, (.aload_n 0, []), 0), (38, (.invokevirtual 155, [(0, 0), (7, 71)]), 19), (41, (.ifCond .eq 5, [(0, 46)]), 0), (44, (.iconst 0, []), 0), (45, (.ireturn, []), 0), (46, (.aload_n 0, []), 0), (47, (.dup, []), 0), (48, (.getfield 53, [(7, 2)]), 20), (51, (.iconst 1, []), 0), (52, (.iload_n 1, []), 0), (53, (.ishl, []), 0), (54, (.ior, []), 0), (55, (.putfield 53, [(7, 2)]), 21), (58, (.aload_n 0, []), 0), (59, (.getfield 22, [(7, 7)]), 22), (62, (.iload_n 1, []), 0), (63, (.aload_n 0, []), 0), (64, (.getfield 33, [(7, 8)]), 23), (67, (.getfield 159, [(4, 0)]), 24), (70, (.iload_n 1, []), 0), (71, (.laload, []), 0), (72, (.lastore, []), 0), (73, (.aload_n 0, []), 0), (74, (.getfield 9, [(7, 4)]), 25), (77, (.iload_n 1, []), 0), (78, (.aload_n 0, []), 0), (79, (.getfield 33, [(7, 8)]), 23), (82, (.getfield 162, [(4, 1)]), 26), (85, (.iload_n 1, []), 0), (86, (.iaload, []), 0), (87, (.iastore, []), 0), (88, (.aload_n 0, []), 0), (89, (.aload_n 0, []), 0), (90, (.getfield 22, [(7, 7)]), 22), (93, (.iload_n 1, []), 0), (94, (.laload, []), 0), (95, (.putfield 152, [(7, 10)]), 18), (98, (.iconst 1, []), 0), (99, (.ireturn, []), 0)]
def mi_67 : rf_E1 := (mt_67, 9, cd_67)
def mt_68 : rf_Mt := (⟨"MemoryTransactions$Draft", "hasWritten", "(I)Z"⟩, prog_4_method_3_code, 2, (Option.some Jvm.ClassFile.FieldType.boolean))
def cd_68 : List (Nat × rf_I × Nat) := [(0, (.aload_n 0, []), 0), (1, (.getfield 34, [(8, 0)]), 10), (4, (.iload_n 1, []), 0), (5, (.iushr, []), 0), (6, (.iconst 1, []), 0), (7, (.iand, []), 0), (8, (.ifCond .eq 7, [(0, 15)]), 0), (11, (.iconst 1, []), 0), (12, (.goto 4, [(0, 16)]), 0), (15, (.iconst 0, []), 0), (16, (.ireturn, []), 0)]
def mi_68 : rf_E1 := (mt_68, 10, cd_68)
def mt_69 : rf_Mt := (⟨"MemoryTransactions$Run", "hasRead", "(I)Z"⟩, prog_10_method_9_code, 2, (Option.some Jvm.ClassFile.FieldType.boolean))
def cd_69 : List (Nat × rf_I × Nat) := [(0, (.aload_n 0, []), 0), (1, (.getfield 53, [(7, 2)]), 20), (4, (.iload_n 1, []), 0), (5, (.iushr, []), 0), (6, (.iconst 1, []), 0), (7, (.iand, []), 0), (8, (.ifCond .eq 7, [(0, 15)]), 0), (11, (.iconst 1, []), 0), (12, (.goto 4, [(0, 16)]), 0), (15, (.iconst 0, []), 0), (16, (.ireturn, []), 0)]
def mi_69 : rf_E1 := (mt_69, 9, cd_69)
def mt_70 : rf_Mt := (⟨"MemoryTransactions$Run", "shows", "(I)J"⟩, prog_10_method_10_code, 2, (Option.some Jvm.ClassFile.FieldType.long))
def cd_70 : List (Nat × rf_I × Nat) := [(0, (.iload_n 1, []), 0), (1, (.bipush 16, []), 0), (3, (.if_icmp .lt 22, [(0, 25)]), 0), (6, (.iload_n 1, []), 0), (7, (.bipush 26, []), 0), (9, (.if_icmp .ge 16, [(0, 25)]), 0), (12, (.aload_n 0, []), 0), (13, (.getfield 18, [(7, 5)]), 14), (16, (.getfield 165, [(8, 2)]), 27), (19, (.iload_n 1, []), 0), (20, (.bipush 16, []), 0), (22, (.isub, []), 0), (23, (.laload, []), 0), (24, (.lreturn, []), 0), (25, (.iload_n 1, []), 0), (26, (.invokestatic 139, [(0, 1), (0, 52)]), 13), (29, (.ifCond .ne 5, [(0, 34)]), 0), (32, (.lconst 0, []), 0), (33, (.lreturn, []), 0), (34, (.aload_n 0, []), 0), (35, (.getfield 18, [(7, 5)]), 14), (38, (.iload_n 1, []), 0), (39, (.invokevirtual 142, [(0, 1), (8, 68)]), 15), (42, (.ifCond .eq 13, [(0, 55)]), 0), (45, (.aload_n 0, []), 0), (46, (.getfield 18, [(7, 5)]), 14), (49, (.getfield 168, [(8, 1)]), 28), (52, (.iload_n 1, []), 0), (53, (.laload, []), 0), (54, (.lreturn, []), 0), (55, (.aload_n 0, []), 0), (56, (.iload_n 1, []), 0), (57, (.invokevirtual 145, [(0, 1), (7, 69)]), 16), (60, (.ifCond .eq 12, [(0, 72)]), 0), (63, (.aload_n 0, []), 0), (64, (.getfield 22, [(7, 7)]), 22), (67, (.iload_n 1, []), 0), (68, (.laload, []), 0), (69, (.goto 12, [(0, 81)]), 0), (72, (.aload_n 0, []), 0), (73, (.getfield 33, [(7, 8)]), 23), (76, (.getfield 159, [(4, 0)]), 24), (79, (.iload_n 1, []), 0), (80, (.laload, []), 0), (81, (.lreturn, []), 0)]
def mi_70 : rf_E1 := (mt_70, 9, cd_70)
def mt_71 : rf_Mt := (⟨"MemoryTransactions$Run", "isStale", "()Z"⟩, prog_10_method_7_code, 1, (Option.some Jvm.ClassFile.FieldType.boolean))
def cd_71 : List (Nat × rf_I × Nat) := [(0, (.aload_n 0, []), 0), (1, (.getfield 33, [(7, 8)]), 23), (4, (.aload_n 0, []), 0), (5, (.getfield 53, [(7, 2)]), 20), (8, (.aload_n 0, []), 0), (9, (.getfield 9, [(7, 4)]), 25), (12, (.invokevirtual 133, [(0, 2), (4, 72)]), 29), (15, (.ireturn, []), 0)]
def mi_71 : rf_E1 := (mt_71, 9, cd_71)
def mt_72 : rf_Mt := (⟨"MemoryTransactions$Store", "differs", "(I[I)Z"⟩, prog_12_method_4_code, 4, (Option.some Jvm.ClassFile.FieldType.boolean))
def cd_72 : List (Nat × rf_I × Nat) := [(0, (.iconst 0, []), 0), (1, (.istore_n 3, []), 0), (2, (.iload_n 3, []), 0), (3, (.bipush 16, []), 0), (5, (.if_icmp .ge 37, [(0, 42)]), 0), (8, (.iload_n 3, []), 0), (9, (.aload_n 2, []), 0), (10, (.arraylength, []), 0), (11, (.if_icmp .ge 31, [(0, 42)]), 0), (14, (.iload_n 1, []), 0), (15, (.iload_n 3, []), 0), (16, (.iushr, []), 0), (17, (.iconst 1, []), 0), (18, (.iand, []), 0), (19, (.ifCond .eq 17, [(0, 36)]), 0), (22, (.aload_n 0, []), 0), (23, (.getfield 15, [(4, 1)]), 26), (26, (.iload_n 3, []), 0), (27, (.iaload, []), 0), (28, (.aload_n 2, []), 0), (29, (.iload_n 3, []), 0), (30, (.iaload, []), 0), (31, (.if_icmp .eq 5, [(0, 36)]), 0), (34, (.iconst 1, []), 0), (35, (.ireturn, []), 0), (36, (.iinc 3 1, []), 0), (39, (.goto (-37), [(0, 2)]), 0), (42, (.iconst 0, []), 0), (43, (.ireturn, []), 0)]
def mi_72 : rf_E1 := (mt_72, 5, cd_72)
def mt_73 : rf_Mt := (⟨"MemoryTransactions$Store", "find", "(I)Z"⟩, prog_12_method_3_code, 2, (Option.some Jvm.ClassFile.FieldType.boolean))
def cd_73 : List (Nat × rf_I × Nat) := [(0, (.aload_n 0, []), 0), (1, (.iload_n 1, []), 0), (2, (.ifCond .lt 18, [(0, 20)]), 0), (5, (.iload_n 1, []), 0), (6, (.bipush 16, []), 0), (8, (.if_icmp .ge 12, [(0, 20)]), 0), (11, (.aload_n 0, []), 0), (12, (.getfield 28, [(4, 5)]), 13), (15, (.iload_n 1, []), 0), (16, (.laload, []), 0), (17, (.goto 4, [(0, 21)]), 0), (20, (.lconst 0, []), 0), (21, (.putfield 51, [(4, 7)]), 27), (24, (.iconst 1, []), 0), (25, (.ireturn, []), 0)]
def mi_73 : rf_E1 := (mt_73, 5, cd_73)
def mt_74 : rf_Mt := (⟨"MemoryTransactions$Calculator", "pop", "()J"⟩, prog_2_method_5_code, 1, (Option.some Jvm.ClassFile.FieldType.long))
def cd_74 : List (Nat × rf_I × Nat) := [(0, (.aload_n 0, []), 0), (1, (.getfield 15, [(5, 1)]), 12), (4, (.ifCond .gt 5, [(0, 9)]), 0), (7, (.lconst 0, []), 0), (8, (.lreturn, []), 0), (9, (.aload_n 0, []), 0), (10, (.dup, []), 0), (11, (.getfield 15, [(5, 1)]), 12), (14, (.iconst 1, []), 0), (15, (.isub, []), 0), (16, (.putfield 15, [(5, 1)]), 3), (19, (.aload_n 0, []), 0), (20, (.getfield 9, [(5, 0)]), 13), (23, (.aload_n 0, []), 0), (24, (.getfield 15, [(5, 1)]), 12), (27, (.laload, []), 0), (28, (.lreturn, []), 0)]
def mi_74 : rf_E1 := (mt_74, 7, cd_74)
def mt_75 : rf_Mt := (⟨"MemoryTransactions$Calculator", "join", "(IJJ)J"⟩, prog_2_method_6_code, 5, (Option.some Jvm.ClassFile.FieldType.long))
def cd_75 : List (Nat × rf_I × Nat) := [(0, (.iload_n 0, []), 0), (1, (.tableswitch 179 37 61 #[141, 179, 179, 179, 179, 123, 115, 179, 119, 179, 127, 179, 179, 179, 179, 179, 179, 179, 179, 179, 179, 179, 179, 155, 167], [(0, 180), (37, 142), (38, 180), (39, 180), (40, 180), (41, 180), (42, 124), (43, 116), (44, 180), (45, 120), (46, 180), (47, 128), (48, 180), (49, 180), (50, 180), (51, 180), (52, 180), (53, 180), (54, 180), (55, 180), (56, 180), (57, 180), (58, 180), (59, 180), (60, 156), (61, 168)]), 0), (116, (.lload_n 1, []), 0), (117, (.lload_n 3, []), 0), (118, (.ladd, []), 0), (119, (.lreturn, []), 0), (120, (.lload_n 1, []), 0), (121, (.lload_n 3, []), 0), (122, (.lsub, []), 0), (123, (.lreturn, []), 0), (124, (.lload_n 1, []), 0), (125, (.lload_n 3, []), 0), (126, (.lmul, []), 0), (127, (.lreturn, []), 0), (128, (.lload_n 3, []), 0), (129, (.lconst 0, []), 0), (130, (.lcmp, []), 0), (131, (.ifCond .ne 7, [(0, 138)]), 0), (134, (.lconst 0, []), 0), (135, (.goto 6, [(0, 141)]), 0), (138, (.lload_n 1, []), 0), (139, (.lload_n 3, []), 0), (140, (.ldiv, []), 0), (141, (.lreturn, []), 0), (142, (.lload_n 3, []), 0), (143, (.lconst 0, []), 0), (144, (.lcmp, []), 0), (145, (.ifCond .ne 7, [(0, 152)]), 0), (148, (.lconst 0, []), 0), (149, (.goto 6, [(0, 155)]), 0), (152, (.lload_n 1, []), 0), (153, (.lload_n 3, []), 0), (154, (.lrem, []), 0), (155, (.lreturn, []), 0), (156, (.lload_n 1, []), 0), (157, (.lload_n 3, []), 0), (158, (.lcmp, []), 0), (159, (.ifCond .ge 7, [(0, 166)]), 0), (162, (.lconst 1, []), 0), (163, (.goto 4, [(0, 167)]), 0), (166, (.lconst 0, []), 0), (167, (.lreturn, []), 0), (168, (.lload_n 1, []), 0), (169, (.lload_n 3, []), 0), (170, (.lcmp, []), 0), (171, (.ifCond .ne 7, [(0, 178)]), 0), (174, (.lconst 1, []), 0), (175, (.goto 4, [(0, 179)]), 0), (178, (.lconst 0, []), 0), (179, (.lreturn, []), 0), (180, (.lload_n 1, []), 0), (181, (.lload_n 3, []), 0), (182, (.lcmp, []), 0), (183, (.ifCond .eq 7, [(0, 190)]), 0), (186, (.lconst 1, []), 0), (187, (.goto 4, [(0, 191)]), 0), (190, (.lconst 0, []), 0), (191, (.lreturn, []), 0)]
def mi_75 : rf_E1 := (mt_75, 7, cd_75)
def mt_76 : rf_Mt := (⟨"MemoryTransactions$Calculator", "result", "()J"⟩, prog_2_method_3_code, 1, (Option.some Jvm.ClassFile.FieldType.long))
def cd_76 : List (Nat × rf_I × Nat) := [(0, (.aload_n 0, []), 0), (1, (.getfield 15, [(5, 1)]), 12), (4, (.ifCond .le 12, [(0, 16)]), 0), (7, (.aload_n 0, []), 0), (8, (.getfield 9, [(5, 0)]), 13), (11, (.iconst 0, []), 0), (12, (.laload, []), 0), (13, (.goto 4, [(0, 17)]), 0), (16, (.lconst 0, []), 0), (17, (.lreturn, []), 0)]
def mi_76 : rf_E1 := (mt_76, 7, cd_76)
def mt_77 : rf_Mt := (⟨"MemoryTransactions$Store", "write", "(IJ)V"⟩, prog_12_method_5_code, 4, (Option.none : Option Jvm.ClassFile.FieldType))
def cd_77 : List (Nat × rf_I × Nat) := [(0, (.iload_n 1, []), 0), (1, (.invokestatic 55, [(0, 1), (0, 52)]), 15), (4, (.ifCond .eq 20, [(0, 24)]), 0), (7, (.aload_n 0, []), 0), (8, (.getfield 9, [(4, 0)]), 12), (11, (.iload_n 1, []), 0), (12, (.lload_n 2, []), 0), (13, (.lastore, []), 0), (14, (.aload_n 0, []), 0), (15, (.getfield 15, [(4, 1)]), 26), (18, (.iload_n 1, []), 0), (19, (.dup2, []), 0), (20, (.iaload, []), 0), (21, (.iconst 1, []), 0), (22, (.iadd, []), 0), (23, (.iastore, []), 0), (24, (.return_, []), 0)]
def mi_77 : rf_E1 := (mt_77, 5, cd_77)
def mt_78 : rf_Mt := (⟨"MemoryTransactions$Journal", "note", "(IIIIIJ)V"⟩, prog_5_method_4_code, 8, (Option.none : Option Jvm.ClassFile.FieldType))
def cd_78 : List (Nat × rf_I × Nat) := [(0, (.aload_n 0, []), 0), (1, (.invokevirtual 35, [(0, 0), (9, 60)]), 10), (4, (.ifCond .eq 4, [(0, 8)]), 0), (7, (.return_, []), 0), (8, (.aload_n 0, []), 0), (9, (.getfield 9, [(9, 1)]), 11), (12, (.aload_n 0, []), 0), (13, (.getfield 31, [(9, 0)]), 9), (16, (.iload_n 1, []), 0), (17, (.iastore, []), 0), (18, (.aload_n 0, []), 0), (19, (.getfield 15, [(9, 2)]), 12), (22, (.aload_n 0, []), 0), (23, (.getfield 31, [(9, 0)]), 9), (26, (.iload_n 2, []), 0), (27, (.iastore, []), 0), (28, (.aload_n 0, []), 0), (29, (.getfield 18, [(9, 3)]), 13), (32, (.aload_n 0, []), 0), (33, (.getfield 31, [(9, 0)]), 9), (36, (.iload_n 3, []), 0), (37, (.iastore, []), 0), (38, (.aload_n 0, []), 0), (39, (.getfield 21, [(9, 4)]), 14), (42, (.aload_n 0, []), 0), (43, (.getfield 31, [(9, 0)]), 9), (46, (.iload 4, []), 0), (48, (.iastore, []), 0), (49, (.aload_n 0, []), 0), (50, (.getfield 24, [(9, 5)]), 15), (53, (.aload_n 0, []), 0), (54, (.getfield 31, [(9, 0)]), 9), (57, (.iload 5, []), 0), (59, (.iastore, []), 0), (60, (.aload_n 0, []), 0), (61, (.getfield 27, [(9, 6)]), 16), (64, (.aload_n 0, []), 0), (65, (.getfield 31, [(9, 0)]), 9), (68, (.lload 6, []), 0), (70, (.lastore, []), 0), (71, (.aload_n 0, []), 0), (72, (.dup, []), 0), (73, (.getfield 31, [(9, 0)]), 9), (76, (.iconst 1, []), 0), (77, (.iadd, []), 0), (78, (.putfield 31, [(9, 0)]), 17), (81, (.return_, []), 0)]
def mi_78 : rf_E1 := (mt_78, 11, cd_78)
def mt_79 : rf_Mt := (⟨"MemoryTransactions", "cell", "(I)J"⟩, prog_1_method_8_code, 2, (Option.some Jvm.ClassFile.FieldType.long))
def cd_79 : List (Nat × rf_I × Nat) := [(0, (.iload_n 1, []), 0), (1, (.invokestatic 90, [(0, 1), (0, 52)]), 40), (4, (.ifCond .eq 15, [(0, 19)]), 0), (7, (.aload_n 0, []), 0), (8, (.getfield 40, [(0, 6)]), 21), (11, (.getfield 112, [(4, 0)]), 47), (14, (.iload_n 1, []), 0), (15, (.laload, []), 0), (16, (.goto 4, [(0, 20)]), 0), (19, (.lconst 0, []), 0), (20, (.lreturn, []), 0)]
def mi_79 : rf_E1 := (mt_79, 1, cd_79)
def mt_80 : rf_Mt := (⟨"MemoryTransactions", "version", "(I)I"⟩, prog_1_method_9_code, 2, (Option.some Jvm.ClassFile.FieldType.int))
def cd_80 : List (Nat × rf_I × Nat) := [(0, (.iload_n 1, []), 0), (1, (.invokestatic 90, [(0, 1), (0, 52)]), 40), (4, (.ifCond .eq 15, [(0, 19)]), 0), (7, (.aload_n 0, []), 0), (8, (.getfield 40, [(0, 6)]), 21), (11, (.getfield 109, [(4, 1)]), 46), (14, (.iload_n 1, []), 0), (15, (.iaload, []), 0), (16, (.goto 4, [(0, 20)]), 0), (19, (.iconst (-1), []), 0), (20, (.ireturn, []), 0)]
def mi_80 : rf_E1 := (mt_80, 1, cd_80)
def mt_81 : rf_Mt := (⟨"MemoryTransactions", "add", "(II)I"⟩, prog_1_method_10_code, 3, (Option.some Jvm.ClassFile.FieldType.int))
def cd_81 : List (Nat × rf_I × Nat) := [(0, (.aload_n 0, []), 0), (1, (.iload_n 1, []), 0), (2, (.invokevirtual 116, [(0, 1), (0, 82)]), 48), (5, (.ifCond .eq 11, [(0, 16)]), 0), (8, (.aload_n 0, []), 0), (9, (.iload_n 2, []), 0), (10, (.invokevirtual 77, [(0, 1), (0, 58)]), 36), (13, (.ifCond .ne 5, [(0, 18)]), 0), (16, (.iconst (-1), []), 0), (17, (.ireturn, []), 0), (18, (.aload_n 0, []), 0), (19, (.getfield 46, [(0, 7)]), 19), (22, (.iload_n 1, []), 0), (23, (.aaload, []), 0), (24, (.iload_n 2, []), 0), (25, (.invokevirtual 119, [(0, 1), (6, 83)]), 49), (28, (.ireturn, []), 0)]
def mi_81 : rf_E1 := (mt_81, 1, cd_81)
def mt_82 : rf_Mt := (⟨"MemoryTransactions", "isClient", "(I)Z"⟩, prog_1_method_23_code, 2, (Option.some Jvm.ClassFile.FieldType.boolean))
def cd_82 : List (Nat × rf_I × Nat) := [(0, (.iload_n 1, []), 0), (1, (.ifCond .lt 13, [(0, 14)]), 0), (4, (.iload_n 1, []), 0), (5, (.bipush 8, []), 0), (7, (.if_icmp .ge 7, [(0, 14)]), 0), (10, (.iconst 1, []), 0), (11, (.goto 4, [(0, 15)]), 0), (14, (.iconst 0, []), 0), (15, (.ireturn, []), 0)]
def mi_82 : rf_E1 := (mt_82, 1, cd_82)
def mt_83 : rf_Mt := (⟨"MemoryTransactions$Client", "enlist", "(I)I"⟩, prog_3_method_3_code, 2, (Option.some Jvm.ClassFile.FieldType.int))
def cd_83 : List (Nat × rf_I × Nat) := [(0, (.aload_n 0, []), 0), (1, (.getfield 31, [(6, 5)]), 7), (4, (.bipush 16, []), 0), (6, (.if_icmp .lt 5, [(0, 11)]), 0), (9, (.iconst (-1), []), 0), (10, (.ireturn, []), 0), (11, (.aload_n 0, []), 0), (12, (.getfield 9, [(6, 3)]), 8), (15, (.aload_n 0, []), 0), (16, (.getfield 31, [(6, 5)]), 7), (19, (.iload_n 1, []), 0), (20, (.iastore, []), 0), (21, (.aload_n 0, []), 0), (22, (.dup, []), 0), (23, (.getfield 31, [(6, 5)]), 7), (26, (.iconst 1, []), 0), (27, (.iadd, []), 0), (28, (.putfield 31, [(6, 5)]), 9), (31, (.aload_n 0, []), 0), (32, (.getfield 27, [(6, 0)]), 10), (35, (.ifCond .ne 8, [(0, 43)]), 0), (38, (.aload_n 0, []), 0), (39, (.iconst 1, []), 0), (40, (.putfield 27, [(6, 0)]), 11), (43, (.aload_n 0, []), 0), (44, (.getfield 31, [(6, 5)]), 7), (47, (.ireturn, []), 0)]
def mi_83 : rf_E1 := (mt_83, 8, cd_83)
def mt_84 : rf_Mt := (⟨"MemoryTransactions", "turn", "(I)I"⟩, prog_1_method_11_code, 2, (Option.some Jvm.ClassFile.FieldType.int))
def cd_84 : List (Nat × rf_I × Nat) := [(0, (.aload_n 0, []), 0), (1, (.iload_n 1, []), 0), (2, (.invokevirtual 116, [(0, 1), (0, 82)]), 48), (5, (.ifCond .eq 11, [(0, 16)]), 0), (8, (.aload_n 0, []), 0), (9, (.iload_n 1, []), 0), (10, (.invokevirtual 123, [(0, 1), (0, 85)]), 50), (13, (.goto 4, [(0, 17)]), 0), (16, (.iconst (-1), []), 0), (17, (.ireturn, []), 0)]
def mi_84 : rf_E1 := (mt_84, 1, cd_84)
def mt_85 : rf_Mt := (⟨"MemoryTransactions", "takeTurn", "(I)I"⟩, prog_1_method_25_code, 7, (Option.some Jvm.ClassFile.FieldType.int))
def cd_85 : List (Nat × rf_I × Nat) := [(0, (.aload_n 0, []), 0), (1, (.getfield 46, [(0, 7)]), 19), (4, (.iload_n 1, []), 0), (5, (.aaload, []), 0), (6, (.astore_n 2, []), 0), (7, (.aload_n 2, []), 0), (8, (.getfield 133, [(6, 0)]), 51), (11, (.ifCond .ne 5, [(0, 16)]), 0), (14, (.iconst 5, []), 0), (15, (.ireturn, []), 0), (16, (.aload_n 2, []), 0), (17, (.getfield 133, [(6, 0)]), 51), (20, (.iconst 3, []), 0), (21, (.if_icmp .ne 16, [(0, 37)]), 0), (24, (.aload_n 2, []), 0), (25, (.aload_n 0, []), 0), (26, (.getfield 40, [(0, 6)]), 21), (29, (.invokevirtual 178, [(0, 1), (6, 86)]), 52), (32, (.ifCond .ne 5, [(0, 37)]), 0), (35, (.iconst 4, []), 0), (36, (.ireturn, []), 0), (37, (.aload_n 2, []), 0), (38, (.getfield 133, [(6, 0)]), 51), (41, (.istore_n 3, []), 0), (42, (.iload_n 3, []), 0), (43, (.iconst 2, []), 0), (44, (.if_icmp .eq 26, [(0, 70)]), 0), (47, (.aload_n 2, []), 0), (48, (.getfield 136, [(6, 4)]), 53), (51, (.aload_n 0, []), 0), (52, (.getfield 19, [(0, 2)]), 6), (55, (.aload_n 2, []), 0), (56, (.getfield 181, [(6, 3)]), 54), (59, (.iconst 0, []), 0), (60, (.iaload, []), 0), (61, (.aaload, []), 0), (62, (.invokevirtual 184, [(0, 1), (7, 87)]), 55), (65, (.aload_n 2, []), 0), (66, (.iconst 2, []), 0), (67, (.putfield 133, [(6, 0)]), 56), (70, (.aload_n 2, []), 0), (71, (.getfield 136, [(6, 4)]), 53), (74, (.getfield 188, [(7, 2)]), 57), (77, (.istore 4, []), 0), (79, (.aload_n 2, []), 0), (80, (.getfield 136, [(6, 4)]), 53), (83, (.invokevirtual 191, [(0, 0), (7, 90)]), 58), (86, (.istore 5, []), 0), (88, (.iload 5, []), 0), (90, (.ifCond .ne 5, [(0, 95)]), 0), (93, (.iconst 0, []), 0), (94, (.ireturn, []), 0), (95, (.iload 5, []), 0), (97, (.iconst 3, []), 0), (98, (.if_icmp .eq 13, [(0, 111)]), 0), (101, (.aload_n 2, []), 0), (102, (.getfield 136, [(6, 4)]), 53), (105, (.invokevirtual 195, [(0, 0), (7, 71)]), 59), (108, (.ifCond .eq 9, [(0, 117)]), 0), (111, (.aload_n 2, []), 0), (112, (.invokevirtual 198, [(0, 0), (6, 101)]), 60), (115, (.iconst 3, []), 0), (116, (.ireturn, []), 0), (117, (.iload 5, []), 0), (119, (.iconst 4, []), 0), (120, (.if_icmp .ne 9, [(0, 129)]), 0), (123, (.aload_n 2, []), 0), (124, (.invokevirtual 201, [(0, 0), (6, 102)]), 61), (127, (.iconst 4, []), 0), (128, (.ireturn, []), 0), (129, (.aload_n 0, []), 0), (130, (.iload_n 1, []), 0), (131, (.invokevirtual 204, [(0, 1), (0, 103)]), 62), (134, (.istore 6, []), 0), (136, (.iload 6, []), 0), (138, (.ifCond .ne 13, [(0, 151)]), 0), (141, (.aload_n 0, []), 0), (142, (.getfield 56, [(0, 8)]), 41), (145, (.invokevirtual 93, [(0, 0), (9, 60)]), 42), (148, (.ifCond .eq 29, [(0, 177)]), 0), (151, (.aload_n 2, []), 0), (152, (.getfield 136, [(6, 4)]), 53), (155, (.iload 4, []), 0), (157, (.putfield 188, [(7, 2)]), 63), (160, (.aload_n 2, []), 0), (161, (.iload_n 3, []), 0), (162, (.putfield 133, [(6, 0)]), 56), (165, (.iload 6, []), 0), (167, (.ifCond .eq 8, [(0, 175)]), 0), (170, (.bipush 6, []), 0), (172, (.goto 4, [(0, 176)]), 0), (175, (.iconst (-1), []), 0), (176, (.ireturn, []), 0), (177, (.aload_n 0, []), 0), (178, (.iload_n 1, []), 0), (179, (.iload 5, []), 0), (181, (.invokevirtual 207, [(0, 2), (0, 104)]), 64), (184, (.ireturn, []), 0)]
def mi_85 : rf_E1 := (mt_85, 1, cd_85)
def mt_86 : rf_Mt := (⟨"MemoryTransactions$Client", "isWoken", "(LMemoryTransactions$Store;)Z"⟩, prog_3_method_4_code, 2, (Option.some Jvm.ClassFile.FieldType.boolean))
def cd_86 : List (Nat × rf_I × Nat) := [(0, (.aload_n 1, []), 0), (1, (.aload_n 0, []), 0), (2, (.getfield 37, [(6, 6)]), 12), (5, (.aload_n 0, []), 0), (6, (.getfield 15, [(6, 7)]), 13), (9, (.invokevirtual 40, [(0, 2), (4, 72)]), 14), (12, (.ireturn, []), 0)]
def mi_86 : rf_E1 := (mt_86, 8, cd_86)
def mt_87 : rf_Mt := (⟨"MemoryTransactions$Run", "begin", "(LMemoryTransactions$Program;)V"⟩, prog_10_method_2_code, 2, (Option.none : Option Jvm.ClassFile.FieldType))
def cd_87 : List (Nat × rf_I × Nat) := [(0, (.aload_n 0, []), 0), (1, (.aload_n 1, []), 0), (2, (.putfield 37, [(7, 0)]), 12), (5, (.aload_n 0, []), 0), (6, (.aload_n 1, []), 0), (7, (.getfield 41, [(1, 4)]), 30), (10, (.putfield 47, [(7, 6)]), 31), (13, (.aload_n 0, []), 0), (14, (.iconst 0, []), 0), (15, (.putfield 50, [(7, 1)]), 32), (18, (.aload_n 0, []), 0), (19, (.iconst 0, []), 0), (20, (.putfield 53, [(7, 2)]), 21), (23, (.aload_n 0, []), 0), (24, (.lconst 0, []), 0), (25, (.putfield 56, [(7, 3)]), 33), (28, (.aload_n 0, []), 0), (29, (.getfield 18, [(7, 5)]), 14), (32, (.invokevirtual 60, [(0, 0), (8, 88)]), 34), (35, (.return_, []), 0)]
def mi_87 : rf_E1 := (mt_87, 9, cd_87)
def mt_88 : rf_Mt := (⟨"MemoryTransactions$Draft", "reset", "()V"⟩, prog_4_method_2_code, 1, (Option.none : Option Jvm.ClassFile.FieldType))
def cd_88 : List (Nat × rf_I × Nat) := [(0, (.aload_n 0, []), 0), (1, (.iconst 0, []), 0), (2, (.putfield 34, [(8, 0)]), 11), (5, (.aload_n 0, []), 0), (6, (.iconst 0, []), 0), (7, (.putfield 38, [(8, 3)]), 12), (10, (.aload_n 0, []), 0), (11, (.getfield 15, [(8, 2)]), 13), (14, (.lconst 0, []), 0), (15, (.invokestatic 41, [(0, 2), (0, 89)]), 14), (18, (.return_, []), 0)]
def mi_88 : rf_E1 := (mt_88, 10, cd_88)
def mt_89 : rf_Mt := (⟨"java/util/Arrays", "fill", "([JJ)V"⟩, prog_20_method_101_code, 5, (Option.none : Option Jvm.ClassFile.FieldType))
def cd_89 : List (Nat × rf_I × Nat) := [(0, (.iconst 0, []), 0), (1, (.istore_n 3, []), 0), (2, (.aload_n 0, []), 0), (3, (.arraylength, []), 0), (4, (.istore 4, []), 0), (6, (.iload_n 3, []), 0), (7, (.iload 4, []), 0), (9, (.if_icmp .ge 13, [(0, 22)]), 0), (12, (.aload_n 0, []), 0), (13, (.iload_n 3, []), 0), (14, (.lload_n 1, []), 0), (15, (.lastore, []), 0), (16, (.iinc 3 1, []), 0), (19, (.goto (-13), [(0, 6)]), 0), (22, (.return_, []), 0)]
def mi_89 : rf_E1 := (mt_89, 16, cd_89)
def mt_90 : rf_Mt := (⟨"MemoryTransactions$Run", "step", "()I"⟩, prog_10_method_3_code, 2, (Option.some Jvm.ClassFile.FieldType.int))
def cd_90 : List (Nat × rf_I × Nat) := [(0, (.aload_n 0, []), 0), (1, (.getfield 50, [(7, 1)]), 35), (4, (.sipush 300, []), 0), (7, (.if_icmp .lt 12, [(0, 19)]), 0), (10, (.aload_n 0, []), 0), (11, (.ldc2_w 63, [(1, 18446744073709551613)]), 36), (14, (.putfield 56, [(7, 3)]), 33), (17, (.iconst 2, []), 0), (18, (.ireturn, []), 0), (19, (.aload_n 0, []), 0), (20, (.getfield 37, [(7, 0)]), 37), (23, (.aload_n 0, []), 0), (24, (.getfield 47, [(7, 6)]), 38), (27, (.invokevirtual 65, [(0, 1), (1, 64)]), 39), (30, (.ifCond .ne 5, [(0, 35)]), 0), (33, (.iconst 1, []), 0), (34, (.ireturn, []), 0), (35, (.iconst 0, []), 0), (36, (.istore_n 1, []), 0), (37, (.aload_n 0, []), 0), (38, (.getfield 37, [(7, 0)]), 37), (41, (.getfield 69, [(1, 5)]), 40), (44, (.aload_n 0, []), 0), (45, (.getfield 47, [(7, 6)]), 38), (48, (.iaload, []), 0), (49, (.tableswitch 129 13 19 #[121, 129, 43, 129, 43, 129, 92], [(0, 178), (13, 170), (14, 178), (15, 92), (16, 178), (17, 92), (18, 178), (19, 141)]), 0), (92, (.aload_n 0, []), 0), (93, (.getfield 18, [(7, 5)]), 14), (96, (.aload_n 0, []), 0), (97, (.getfield 37, [(7, 0)]), 37), (100, (.getfield 72, [(1, 10)]), 41), (103, (.aload_n 0, []), 0), (104, (.getfield 47, [(7, 6)]), 38), (107, (.iaload, []), 0), (108, (.invokevirtual 75, [(0, 1), (8, 91)]), 42), (111, (.aload_n 0, []), 0), (112, (.aload_n 0, []), 0), (113, (.getfield 37, [(7, 0)]), 37), (116, (.aload_n 0, []), 0), (117, (.getfield 47, [(7, 6)]), 38), (120, (.aload_n 0, []), 0), (121, (.getfield 37, [(7, 0)]), 37), (124, (.getfield 79, [(1, 12)]), 43), (127, (.aload_n 0, []), 0), (128, (.getfield 47, [(7, 6)]), 38), (131, (.iaload, []), 0), (132, (.invokevirtual 82, [(0, 2), (1, 92)]), 44), (135, (.putfield 47, [(7, 6)]), 31), (138, (.goto 45, [(0, 183)]), 0), (141, (.aload_n 0, []), 0), (142, (.getfield 18, [(7, 5)]), 14), (145, (.aload_n 0, []), 0), (146, (.getfield 47, [(7, 6)]), 38), (149, (.invokevirtual 86, [(0, 1), (8, 94)]), 45), (152, (.aload_n 0, []), 0), (153, (.aload_n 0, []), 0), (154, (.getfield 37, [(7, 0)]), 37), (157, (.aload_n 0, []), 0), (158, (.getfield 47, [(7, 6)]), 38), (161, (.invokevirtual 89, [(0, 1), (1, 93)]), 46), (164, (.putfield 47, [(7, 6)]), 31), (167, (.goto 16, [(0, 183)]), 0), (170, (.aload_n 0, []), 0), (171, (.invokevirtual 93, [(0, 0), (7, 95)]), 47), (174, (.istore_n 1, []), 0), (175, (.goto 8, [(0, 183)]), 0), (178, (.aload_n 0, []), 0), (179, (.invokevirtual 97, [(0, 0), (7, 98)]), 48), (182, (.istore_n 1, []), 0), (183, (.iload_n 1, []), 0), (184, (.ifCond .ne 13, [(0, 197)]), 0), (187, (.aload_n 0, []), 0), (188, (.dup, []), 0), (189, (.getfield 50, [(7, 1)]), 35), (192, (.iconst 1, []), 0), (193, (.iadd, []), 0), (194, (.putfield 50, [(7, 1)]), 32), (197, (.iload_n 1, []), 0), (198, (.ireturn, []), 0)]
def mi_90 : rf_E1 := (mt_90, 9, cd_90)
def mt_91 : rf_Mt := (⟨"MemoryTransactions$Draft", "mark", "(I)V"⟩, prog_4_method_6_code, 2, (Option.none : Option Jvm.ClassFile.FieldType))
def cd_91 : List (Nat × rf_I × Nat) := [(0, (.iload_n 1, []), 0), (1, (.ifCond .lt 9, [(0, 10)]), 0), (4, (.iload_n 1, []), 0), (5, (.bipush 8, []), 0), (7, (.if_icmp .lt 4, [(0, 11)]), 0), (10, (.return_, []), 0), (11, (.aload_n 0, []), 0), (12, (.getfield 22, [(8, 5)]), 15), (15, (.iload_n 1, []), 0), (16, (.aload_n 0, []), 0), (17, (.getfield 34, [(8, 0)]), 10), (20, (.iastore, []), 0), (21, (.aload_n 0, []), 0), (22, (.getfield 31, [(8, 8)]), 16), (25, (.iload_n 1, []), 0), (26, (.aload_n 0, []), 0), (27, (.getfield 38, [(8, 3)]), 17), (30, (.iastore, []), 0), (31, (.aload_n 0, []), 0), (32, (.getfield 9, [(8, 1)]), 18), (35, (.iconst 0, []), 0), (36, (.aload_n 0, []), 0), (37, (.getfield 25, [(8, 6)]), 19), (40, (.iload_n 1, []), 0), (41, (.bipush 16, []), 0), (43, (.imul, []), 0), (44, (.bipush 16, []), 0), (46, (.invokestatic 51, [(11, 0)]), 20), (49, (.aload_n 0, []), 0), (50, (.getfield 15, [(8, 2)]), 13), (53, (.iconst 0, []), 0), (54, (.aload_n 0, []), 0), (55, (.getfield 28, [(8, 7)]), 21), (58, (.iload_n 1, []), 0), (59, (.bipush 10, []), 0), (61, (.imul, []), 0), (62, (.bipush 10, []), 0), (64, (.invokestatic 51, [(11, 0)]), 20), (67, (.return_, []), 0)]
def mi_91 : rf_E1 := (mt_91, 10, cd_91)
def mt_92 : rf_Mt := (⟨"MemoryTransactions$Program", "into", "(II)I"⟩, prog_8_method_7_code, 3, (Option.some Jvm.ClassFile.FieldType.int))
def cd_92 : List (Nat × rf_I × Nat) := [(0, (.iload_n 2, []), 0), (1, (.iconst (-1), []), 0), (2, (.if_icmp .eq 5, [(0, 7)]), 0), (5, (.iload_n 2, []), 0), (6, (.ireturn, []), 0), (7, (.aload_n 0, []), 0), (8, (.iload_n 1, []), 0), (9, (.invokevirtual 61, [(0, 1), (1, 64)]), 31), (12, (.ifCond .eq 16, [(0, 28)]), 0), (15, (.aload_n 0, []), 0), (16, (.getfield 9, [(1, 5)]), 19), (19, (.iload_n 1, []), 0), (20, (.iaload, []), 0), (21, (.bipush 12, []), 0), (23, (.if_icmp .ne 5, [(0, 28)]), 0), (26, (.iload_n 1, []), 0), (27, (.ireturn, []), 0), (28, (.aload_n 0, []), 0), (29, (.iload_n 1, []), 0), (30, (.invokevirtual 65, [(0, 1), (1, 93)]), 32), (33, (.ireturn, []), 0)]
def mi_92 : rf_E1 := (mt_92, 2, cd_92)
def mt_93 : rf_Mt := (⟨"MemoryTransactions$Program", "behind", "(I)I"⟩, prog_8_method_6_code, 4, (Option.some Jvm.ClassFile.FieldType.int))
def cd_93 : List (Nat × rf_I × Nat) := [(0, (.iload_n 1, []), 0), (1, (.istore_n 2, []), 0), (2, (.iconst 0, []), 0), (3, (.istore_n 3, []), 0), (4, (.iload_n 3, []), 0), (5, (.bipush 8, []), 0), (7, (.if_icmp .gt 62, [(0, 69)]), 0), (10, (.aload_n 0, []), 0), (11, (.iload_n 2, []), 0), (12, (.invokevirtual 61, [(0, 1), (1, 64)]), 31), (15, (.ifCond .eq 54, [(0, 69)]), 0), (18, (.aload_n 0, []), 0), (19, (.getfield 30, [(1, 11)]), 26), (22, (.iload_n 2, []), 0), (23, (.iaload, []), 0), (24, (.iconst (-1), []), 0), (25, (.if_icmp .eq 10, [(0, 35)]), 0), (28, (.aload_n 0, []), 0), (29, (.getfield 30, [(1, 11)]), 26), (32, (.iload_n 2, []), 0), (33, (.iaload, []), 0), (34, (.ireturn, []), 0), (35, (.aload_n 0, []), 0), (36, (.getfield 21, [(1, 8)]), 23), (39, (.iload_n 2, []), 0), (40, (.iaload, []), 0), (41, (.istore_n 2, []), 0), (42, (.aload_n 0, []), 0), (43, (.iload_n 2, []), 0), (44, (.invokevirtual 61, [(0, 1), (1, 64)]), 31), (47, (.ifCond .eq 16, [(0, 63)]), 0), (50, (.aload_n 0, []), 0), (51, (.getfield 9, [(1, 5)]), 19), (54, (.iload_n 2, []), 0), (55, (.iaload, []), 0), (56, (.bipush 12, []), 0), (58, (.if_icmp .ne 5, [(0, 63)]), 0), (61, (.iload_n 2, []), 0), (62, (.ireturn, []), 0), (63, (.iinc 3 1, []), 0), (66, (.goto (-62), [(0, 4)]), 0), (69, (.iconst (-1), []), 0), (70, (.ireturn, []), 0)]
def mi_93 : rf_E1 := (mt_93, 2, cd_93)
def mt_94 : rf_Mt := (⟨"MemoryTransactions$Draft", "addRule", "(I)V"⟩, prog_4_method_5_code, 2, (Option.none : Option Jvm.ClassFile.FieldType))
def cd_94 : List (Nat × rf_I × Nat) := [(0, (.aload_n 0, []), 0), (1, (.getfield 38, [(8, 3)]), 17), (4, (.sipush 300, []), 0), (7, (.if_icmp .ge 23, [(0, 30)]), 0), (10, (.aload_n 0, []), 0), (11, (.getfield 18, [(8, 4)]), 22), (14, (.aload_n 0, []), 0), (15, (.getfield 38, [(8, 3)]), 17), (18, (.iload_n 1, []), 0), (19, (.iastore, []), 0), (20, (.aload_n 0, []), 0), (21, (.dup, []), 0), (22, (.getfield 38, [(8, 3)]), 17), (25, (.iconst 1, []), 0), (26, (.iadd, []), 0), (27, (.putfield 38, [(8, 3)]), 12), (30, (.return_, []), 0)]
def mi_94 : rf_E1 := (mt_94, 10, cd_94)
def mt_95 : rf_Mt := (⟨"MemoryTransactions$Run", "retry", "()I"⟩, prog_10_method_6_code, 2, (Option.some Jvm.ClassFile.FieldType.int))
def cd_95 : List (Nat × rf_I × Nat) := [(0, (.aload_n 0, []), 0), (1, (.getfield 37, [(7, 0)]), 37), (4, (.aload_n 0, []), 0), (5, (.getfield 47, [(7, 6)]), 38), (8, (.bipush 15, []), 0), (10, (.invokevirtual 127, [(0, 2), (1, 96)]), 49), (13, (.istore_n 1, []), 0), (14, (.iload_n 1, []), 0), (15, (.iconst (-1), []), 0), (16, (.if_icmp .ne 5, [(0, 21)]), 0), (19, (.iconst 4, []), 0), (20, (.ireturn, []), 0), (21, (.aload_n 0, []), 0), (22, (.getfield 18, [(7, 5)]), 14), (25, (.aload_n 0, []), 0), (26, (.getfield 37, [(7, 0)]), 37), (29, (.getfield 72, [(1, 10)]), 41), (32, (.iload_n 1, []), 0), (33, (.iaload, []), 0), (34, (.invokevirtual 130, [(0, 1), (8, 97)]), 50), (37, (.aload_n 0, []), 0), (38, (.aload_n 0, []), 0), (39, (.getfield 37, [(7, 0)]), 37), (42, (.iload_n 1, []), 0), (43, (.aload_n 0, []), 0), (44, (.getfield 37, [(7, 0)]), 37), (47, (.getfield 117, [(1, 13)]), 51), (50, (.iload_n 1, []), 0), (51, (.iaload, []), 0), (52, (.invokevirtual 82, [(0, 2), (1, 92)]), 44), (55, (.putfield 47, [(7, 6)]), 31), (58, (.iconst 0, []), 0), (59, (.ireturn, []), 0)]
def mi_95 : rf_E1 := (mt_95, 9, cd_95)
def mt_96 : rf_Mt := (⟨"MemoryTransactions$Program", "around", "(II)I"⟩, prog_8_method_8_code, 6, (Option.some Jvm.ClassFile.FieldType.int))
def cd_96 : List (Nat × rf_I × Nat) := [(0, (.iload_n 1, []), 0), (1, (.istore_n 3, []), 0), (2, (.iconst 0, []), 0), (3, (.istore 4, []), 0), (5, (.iload 4, []), 0), (7, (.bipush 8, []), 0), (9, (.if_icmp .gt 60, [(0, 69)]), 0), (12, (.aload_n 0, []), 0), (13, (.iload_n 3, []), 0), (14, (.invokevirtual 61, [(0, 1), (1, 64)]), 31), (17, (.ifCond .eq 52, [(0, 69)]), 0), (20, (.aload_n 0, []), 0), (21, (.getfield 21, [(1, 8)]), 23), (24, (.iload_n 3, []), 0), (25, (.iaload, []), 0), (26, (.istore 5, []), 0), (28, (.aload_n 0, []), 0), (29, (.iload 5, []), 0), (31, (.invokevirtual 61, [(0, 1), (1, 64)]), 31), (34, (.ifCond .eq 26, [(0, 60)]), 0), (37, (.aload_n 0, []), 0), (38, (.getfield 24, [(1, 9)]), 24), (41, (.iload_n 3, []), 0), (42, (.iaload, []), 0), (43, (.ifCond .ne 17, [(0, 60)]), 0), (46, (.aload_n 0, []), 0), (47, (.getfield 9, [(1, 5)]), 19), (50, (.iload 5, []), 0), (52, (.iaload, []), 0), (53, (.iload_n 2, []), 0), (54, (.if_icmp .ne 6, [(0, 60)]), 0), (57, (.iload 5, []), 0), (59, (.ireturn, []), 0), (60, (.iload 5, []), 0), (62, (.istore_n 3, []), 0), (63, (.iinc 4 1, []), 0), (66, (.goto (-61), [(0, 5)]), 0), (69, (.iconst (-1), []), 0), (70, (.ireturn, []), 0)]
def mi_96 : rf_E1 := (mt_96, 2, cd_96)
def mt_97 : rf_Mt := (⟨"MemoryTransactions$Draft", "takeBack", "(I)V"⟩, prog_4_method_7_code, 2, (Option.none : Option Jvm.ClassFile.FieldType))
def cd_97 : List (Nat × rf_I × Nat) := [(0, (.iload_n 1, []), 0), (1, (.ifCond .lt 9, [(0, 10)]), 0), (4, (.iload_n 1, []), 0), (5, (.bipush 8, []), 0), (7, (.if_icmp .lt 4, [(0, 11)]), 0), (10, (.return_, []), 0), (11, (.aload_n 0, []), 0), (12, (.aload_n 0, []), 0), (13, (.getfield 22, [(8, 5)]), 15), (16, (.iload_n 1, []), 0), (17, (.iaload, []), 0), (18, (.putfield 34, [(8, 0)]), 11), (21, (.aload_n 0, []), 0), (22, (.aload_n 0, []), 0), (23, (.getfield 31, [(8, 8)]), 16), (26, (.iload_n 1, []), 0), (27, (.iaload, []), 0), (28, (.putfield 38, [(8, 3)]), 12), (31, (.aload_n 0, []), 0), (32, (.getfield 25, [(8, 6)]), 19), (35, (.iload_n 1, []), 0), (36, (.bipush 16, []), 0), (38, (.imul, []), 0), (39, (.aload_n 0, []), 0), (40, (.getfield 9, [(8, 1)]), 18), (43, (.iconst 0, []), 0), (44, (.bipush 16, []), 0), (46, (.invokestatic 51, [(11, 0)]), 20), (49, (.aload_n 0, []), 0), (50, (.getfield 28, [(8, 7)]), 21), (53, (.iload_n 1, []), 0), (54, (.bipush 10, []), 0), (56, (.imul, []), 0), (57, (.aload_n 0, []), 0), (58, (.getfield 15, [(8, 2)]), 13), (61, (.iconst 0, []), 0), (62, (.bipush 10, []), 0), (64, (.invokestatic 51, [(11, 0)]), 20), (67, (.return_, []), 0)]
def mi_97 : rf_E1 := (mt_97, 10, cd_97)
def mt_98 : rf_Mt := (⟨"MemoryTransactions$Run", "walkExp", "()I"⟩, prog_10_method_4_code, 4, (Option.some Jvm.ClassFile.FieldType.int))
def cd_98 : List (Nat × rf_I × Nat) := [(0, (.aload_n 0, []), 0), (1, (.getfield 29, [(7, 9)]), 52), (4, (.aload_n 0, []), 0), (5, (.getfield 37, [(7, 0)]), 37), (8, (.aload_n 0, []), 0), (9, (.getfield 37, [(7, 0)]), 37), (12, (.getfield 100, [(1, 7)]), 53), (15, (.aload_n 0, []), 0), (16, (.getfield 47, [(7, 6)]), 38), (19, (.iaload, []), 0), (20, (.aload_n 0, []), 0), (21, (.invokevirtual 103, [(0, 3), (5, 65)]), 54), (24, (.istore_n 1, []), 0), (25, (.iload_n 1, []), 0), (26, (.iconst 1, []), 0), (27, (.if_icmp .ne 5, [(0, 32)]), 0), (30, (.iconst 3, []), 0), (31, (.ireturn, []), 0), (32, (.iload_n 1, []), 0), (33, (.iconst 2, []), 0), (34, (.if_icmp .ne 11, [(0, 45)]), 0), (37, (.aload_n 0, []), 0), (38, (.ldc2_w 107, [(1, 18446744073709551615)]), 55), (41, (.invokevirtual 109, [(0, 1), (7, 99)]), 56), (44, (.ireturn, []), 0), (45, (.aload_n 0, []), 0), (46, (.getfield 29, [(7, 9)]), 52), (49, (.invokevirtual 113, [(0, 0), (5, 76)]), 57), (52, (.lstore_n 2, []), 0), (53, (.aload_n 0, []), 0), (54, (.getfield 37, [(7, 0)]), 37), (57, (.getfield 69, [(1, 5)]), 40), (60, (.aload_n 0, []), 0), (61, (.getfield 47, [(7, 6)]), 38), (64, (.iaload, []), 0), (65, (.tableswitch 140 10 14 #[41, 140, 91, 140, 35], [(0, 205), (10, 106), (11, 205), (12, 156), (13, 205), (14, 100)]), 0), (100, (.aload_n 0, []), 0), (101, (.lload_n 2, []), 0), (102, (.invokevirtual 109, [(0, 1), (7, 99)]), 56), (105, (.ireturn, []), 0), (106, (.aload_n 0, []), 0), (107, (.aload_n 0, []), 0), (108, (.getfield 37, [(7, 0)]), 37), (111, (.aload_n 0, []), 0), (112, (.getfield 47, [(7, 6)]), 38), (115, (.lload_n 2, []), 0), (116, (.lconst 0, []), 0), (117, (.lcmp, []), 0), (118, (.ifCond .eq 18, [(0, 136)]), 0), (121, (.aload_n 0, []), 0), (122, (.getfield 37, [(7, 0)]), 37), (125, (.getfield 79, [(1, 12)]), 43), (128, (.aload_n 0, []), 0), (129, (.getfield 47, [(7, 6)]), 38), (132, (.iaload, []), 0), (133, (.goto 15, [(0, 148)]), 0), (136, (.aload_n 0, []), 0), (137, (.getfield 37, [(7, 0)]), 37), (140, (.getfield 117, [(1, 13)]), 51), (143, (.aload_n 0, []), 0), (144, (.getfield 47, [(7, 6)]), 38), (147, (.iaload, []), 0), (148, (.invokevirtual 82, [(0, 2), (1, 92)]), 44), (151, (.putfield 47, [(7, 6)]), 31), (154, (.iconst 0, []), 0), (155, (.ireturn, []), 0), (156, (.aload_n 0, []), 0), (157, (.lload_n 2, []), 0), (158, (.lconst 0, []), 0), (159, (.lcmp, []), 0), (160, (.ifCond .eq 29, [(0, 189)]), 0), (163, (.aload_n 0, []), 0), (164, (.getfield 37, [(7, 0)]), 37), (167, (.aload_n 0, []), 0), (168, (.getfield 47, [(7, 6)]), 38), (171, (.aload_n 0, []), 0), (172, (.getfield 37, [(7, 0)]), 37), (175, (.getfield 79, [(1, 12)]), 43), (178, (.aload_n 0, []), 0), (179, (.getfield 47, [(7, 6)]), 38), (182, (.iaload, []), 0), (183, (.invokevirtual 82, [(0, 2), (1, 92)]), 44), (186, (.goto 14, [(0, 200)]), 0), (189, (.aload_n 0, []), 0), (190, (.getfield 37, [(7, 0)]), 37), (193, (.aload_n 0, []), 0), (194, (.getfield 47, [(7, 6)]), 38), (197, (.invokevirtual 89, [(0, 1), (1, 93)]), 46), (200, (.putfield 47, [(7, 6)]), 31), (203, (.iconst 0, []), 0), (204, (.ireturn, []), 0), (205, (.aload_n 0, []), 0), (206, (.getfield 18, [(7, 5)]), 14), (209, (.aload_n 0, []), 0), (210, (.getfield 37, [(7, 0)]), 37), (213, (.getfield 120, [(1, 6)]), 58), (216, (.aload_n 0, []), 0), (217, (.getfield 47, [(7, 6)]), 38), (220, (.iaload, []), 0), (221, (.lload_n 2, []), 0), (222, (.invokevirtual 123, [(0, 2), (8, 100)]), 59), (225, (.aload_n 0, []), 0), (226, (.aload_n 0, []), 0), (227, (.getfield 37, [(7, 0)]), 37), (230, (.aload_n 0, []), 0), (231, (.getfield 47, [(7, 6)]), 38), (234, (.invokevirtual 89, [(0, 1), (1, 93)]), 46), (237, (.putfield 47, [(7, 6)]), 31), (240, (.iconst 0, []), 0), (241, (.ireturn, []), 0)]
def mi_98 : rf_E1 := (mt_98, 9, cd_98)
def mt_99 : rf_Mt := (⟨"MemoryTransactions$Run", "toss", "(J)I"⟩, prog_10_method_5_code, 4, (Option.some Jvm.ClassFile.FieldType.int))
def cd_99 : List (Nat × rf_I × Nat) := [(0, (.aload_n 0, []), 0), (1, (.getfield 37, [(7, 0)]), 37), (4, (.aload_n 0, []), 0), (5, (.getfield 47, [(7, 6)]), 38), (8, (.bipush 17, []), 0), (10, (.invokevirtual 127, [(0, 2), (1, 96)]), 49), (13, (.istore_n 3, []), 0), (14, (.iload_n 3, []), 0), (15, (.iconst (-1), []), 0), (16, (.if_icmp .ne 10, [(0, 26)]), 0), (19, (.aload_n 0, []), 0), (20, (.lload_n 1, []), 0), (21, (.putfield 56, [(7, 3)]), 33), (24, (.iconst 2, []), 0), (25, (.ireturn, []), 0), (26, (.aload_n 0, []), 0), (27, (.getfield 18, [(7, 5)]), 14), (30, (.aload_n 0, []), 0), (31, (.getfield 37, [(7, 0)]), 37), (34, (.getfield 72, [(1, 10)]), 41), (37, (.iload_n 3, []), 0), (38, (.iaload, []), 0), (39, (.invokevirtual 130, [(0, 1), (8, 97)]), 50), (42, (.aload_n 0, []), 0), (43, (.getfield 18, [(7, 5)]), 14), (46, (.aload_n 0, []), 0), (47, (.getfield 37, [(7, 0)]), 37), (50, (.getfield 120, [(1, 6)]), 58), (53, (.iload_n 3, []), 0), (54, (.iaload, []), 0), (55, (.lload_n 1, []), 0), (56, (.invokevirtual 123, [(0, 2), (8, 100)]), 59), (59, (.aload_n 0, []), 0), (60, (.aload_n 0, []), 0), (61, (.getfield 37, [(7, 0)]), 37), (64, (.iload_n 3, []), 0), (65, (.aload_n 0, []), 0), (66, (.getfield 37, [(7, 0)]), 37), (69, (.getfield 117, [(1, 13)]), 51), (72, (.iload_n 3, []), 0), (73, (.iaload, []), 0), (74, (.invokevirtual 82, [(0, 2), (1, 92)]), 44), (77, (.putfield 47, [(7, 6)]), 31), (80, (.iconst 0, []), 0), (81, (.ireturn, []), 0)]
def mi_99 : rf_E1 := (mt_99, 9, cd_99)
def mt_100 : rf_Mt := (⟨"MemoryTransactions$Draft", "assign", "(IJ)V"⟩, prog_4_method_4_code, 4, (Option.none : Option Jvm.ClassFile.FieldType))
def cd_100 : List (Nat × rf_I × Nat) := [(0, (.iload_n 1, []), 0), (1, (.invokestatic 47, [(0, 1), (0, 52)]), 23), (4, (.ifCond .eq 25, [(0, 29)]), 0), (7, (.aload_n 0, []), 0), (8, (.getfield 9, [(8, 1)]), 18), (11, (.iload_n 1, []), 0), (12, (.lload_n 2, []), 0), (13, (.lastore, []), 0), (14, (.aload_n 0, []), 0), (15, (.dup, []), 0), (16, (.getfield 34, [(8, 0)]), 10), (19, (.iconst 1, []), 0), (20, (.iload_n 1, []), 0), (21, (.ishl, []), 0), (22, (.ior, []), 0), (23, (.putfield 34, [(8, 0)]), 11), (26, (.goto 25, [(0, 51)]), 0), (29, (.iload_n 1, []), 0), (30, (.bipush 16, []), 0), (32, (.if_icmp .lt 19, [(0, 51)]), 0), (35, (.iload_n 1, []), 0), (36, (.bipush 26, []), 0), (38, (.if_icmp .ge 13, [(0, 51)]), 0), (41, (.aload_n 0, []), 0), (42, (.getfield 15, [(8, 2)]), 13), (45, (.iload_n 1, []), 0), (46, (.bipush 16, []), 0), (48, (.isub, []), 0), (49, (.lload_n 2, []), 0), (50, (.lastore, []), 0), (51, (.return_, []), 0)]
def mi_100 : rf_E1 := (mt_100, 10, cd_100)
def mt_101 : rf_Mt := (⟨"MemoryTransactions$Client", "cut", "()V"⟩, prog_3_method_5_code, 1, (Option.none : Option Jvm.ClassFile.FieldType))
def cd_101 : List (Nat × rf_I × Nat) := [(0, (.aload_n 0, []), 0), (1, (.iconst 1, []), 0), (2, (.putfield 27, [(6, 0)]), 11), (5, (.aload_n 0, []), 0), (6, (.dup, []), 0), (7, (.getfield 46, [(6, 1)]), 15), (10, (.iconst 1, []), 0), (11, (.iadd, []), 0), (12, (.putfield 46, [(6, 1)]), 16), (15, (.aload_n 0, []), 0), (16, (.aload_n 0, []), 0), (17, (.getfield 46, [(6, 1)]), 15), (20, (.iconst 4, []), 0), (21, (.if_icmp .lt 7, [(0, 28)]), 0), (24, (.iconst 1, []), 0), (25, (.goto 4, [(0, 29)]), 0), (28, (.iconst 0, []), 0), (29, (.putfield 49, [(6, 2)]), 17), (32, (.return_, []), 0)]
def mi_101 : rf_E1 := (mt_101, 8, cd_101)
def mt_102 : rf_Mt := (⟨"MemoryTransactions$Client", "rest", "()V"⟩, prog_3_method_6_code, 1, (Option.none : Option Jvm.ClassFile.FieldType))
def cd_102 : List (Nat × rf_I × Nat) := [(0, (.aload_n 0, []), 0), (1, (.iconst 3, []), 0), (2, (.putfield 27, [(6, 0)]), 11), (5, (.aload_n 0, []), 0), (6, (.iconst 0, []), 0), (7, (.putfield 49, [(6, 2)]), 17), (10, (.aload_n 0, []), 0), (11, (.aload_n 0, []), 0), (12, (.getfield 23, [(6, 4)]), 18), (15, (.getfield 53, [(7, 2)]), 19), (18, (.putfield 37, [(6, 6)]), 20), (21, (.aload_n 0, []), 0), (22, (.getfield 23, [(6, 4)]), 18), (25, (.getfield 56, [(7, 4)]), 21), (28, (.iconst 0, []), 0), (29, (.aload_n 0, []), 0), (30, (.getfield 15, [(6, 7)]), 13), (33, (.iconst 0, []), 0), (34, (.bipush 16, []), 0), (36, (.invokestatic 59, [(11, 0)]), 22), (39, (.return_, []), 0)]
def mi_102 : rf_E1 := (mt_102, 8, cd_102)
def mt_103 : rf_Mt := (⟨"MemoryTransactions", "isHeld", "(I)Z"⟩, prog_1_method_26_code, 3, (Option.some Jvm.ClassFile.FieldType.boolean))
def cd_103 : List (Nat × rf_I × Nat) := [(0, (.aload_n 0, []), 0), (1, (.getfield 46, [(0, 7)]), 19), (4, (.iload_n 1, []), 0), (5, (.aaload, []), 0), (6, (.getfield 210, [(6, 2)]), 65), (9, (.ifCond .eq 5, [(0, 14)]), 0), (12, (.iconst 0, []), 0), (13, (.ireturn, []), 0), (14, (.iconst 0, []), 0), (15, (.istore_n 2, []), 0), (16, (.iload_n 2, []), 0), (17, (.bipush 8, []), 0), (19, (.if_icmp .ge 23, [(0, 42)]), 0), (22, (.aload_n 0, []), 0), (23, (.getfield 46, [(0, 7)]), 19), (26, (.iload_n 2, []), 0), (27, (.aaload, []), 0), (28, (.getfield 210, [(6, 2)]), 65), (31, (.ifCond .eq 5, [(0, 36)]), 0), (34, (.iconst 1, []), 0), (35, (.ireturn, []), 0), (36, (.iinc 2 1, []), 0), (39, (.goto (-23), [(0, 16)]), 0), (42, (.iconst 0, []), 0), (43, (.ireturn, []), 0)]
def mi_103 : rf_E1 := (mt_103, 1, cd_103)
def mt_104 : rf_Mt := (⟨"MemoryTransactions", "closeRun", "(II)I"⟩, prog_1_method_27_code, 7, (Option.some Jvm.ClassFile.FieldType.int))
def cd_104 : List (Nat × rf_I × Nat) := [(0, (.aload_n 0, []), 0), (1, (.getfield 46, [(0, 7)]), 19), (4, (.iload_n 1, []), 0), (5, (.aaload, []), 0), (6, (.astore_n 3, []), 0), (7, (.aload_n 3, []), 0), (8, (.getfield 136, [(6, 4)]), 53), (11, (.astore 4, []), 0), (13, (.iload_n 2, []), 0), (14, (.iconst 1, []), 0), (15, (.if_icmp .ne 27, [(0, 42)]), 0), (18, (.aload_n 0, []), 0), (19, (.getfield 40, [(0, 6)]), 21), (22, (.aload 4, []), 0), (24, (.getfield 213, [(7, 0)]), 66), (27, (.aload 4, []), 0), (29, (.getfield 217, [(7, 5)]), 67), (32, (.invokevirtual 221, [(0, 2), (4, 105)]), 68), (35, (.ifCond .eq 7, [(0, 42)]), 0), (38, (.iconst 1, []), 0), (39, (.goto 4, [(0, 43)]), 0), (42, (.iconst 0, []), 0), (43, (.istore 5, []), 0), (45, (.iload_n 2, []), 0), (46, (.iconst 1, []), 0), (47, (.if_icmp .ne 20, [(0, 67)]), 0), (50, (.aload 4, []), 0), (52, (.iload 5, []), 0), (54, (.ifCond .eq 7, [(0, 61)]), 0), (57, (.lconst 0, []), 0), (58, (.goto 6, [(0, 64)]), 0), (61, (.ldc2_w 225, [(1, 18446744073709551614)]), 69), (64, (.putfield 227, [(7, 3)]), 70), (67, (.iload 5, []), 0), (69, (.ifCond .eq 7, [(0, 76)]), 0), (72, (.iconst 1, []), 0), (73, (.goto 4, [(0, 77)]), 0), (76, (.iconst 2, []), 0), (77, (.istore 6, []), 0), (79, (.aload_n 0, []), 0), (80, (.getfield 56, [(0, 8)]), 41), (83, (.iload 6, []), 0), (85, (.iload_n 1, []), 0), (86, (.aload_n 3, []), 0), (87, (.getfield 181, [(6, 3)]), 54), (90, (.iconst 0, []), 0), (91, (.iaload, []), 0), (92, (.aload 4, []), 0), (94, (.getfield 231, [(7, 1)]), 71), (97, (.iconst 1, []), 0), (98, (.iadd, []), 0), (99, (.aload_n 3, []), 0), (100, (.getfield 234, [(6, 1)]), 72), (103, (.aload 4, []), 0), (105, (.getfield 227, [(7, 3)]), 73), (108, (.invokevirtual 105, [(0, 6), (9, 78)]), 45), (111, (.aload_n 3, []), 0), (112, (.invokevirtual 237, [(0, 0), (6, 106)]), 74), (115, (.iload 5, []), 0), (117, (.ifCond .eq 7, [(0, 124)]), 0), (120, (.iconst 1, []), 0), (121, (.goto 4, [(0, 125)]), 0), (124, (.iconst 2, []), 0), (125, (.ireturn, []), 0)]
def mi_104 : rf_E1 := (mt_104, 1, cd_104)
def mt_105 : rf_Mt := (⟨"MemoryTransactions$Store", "takes", "(LMemoryTransactions$Program;LMemoryTransactions$Draft;)Z"⟩, prog_12_method_7_code, 4, (Option.some Jvm.ClassFile.FieldType.boolean))
def cd_105 : List (Nat × rf_I × Nat) := [(0, (.aload_n 0, []), 0), (1, (.getfield 9, [(4, 0)]), 12), (4, (.iconst 0, []), 0), (5, (.aload_n 0, []), 0), (6, (.getfield 28, [(4, 5)]), 13), (9, (.iconst 0, []), 0), (10, (.bipush 16, []), 0), (12, (.invokestatic 59, [(11, 0)]), 14), (15, (.iconst 0, []), 0), (16, (.istore_n 3, []), 0), (17, (.iload_n 3, []), 0), (18, (.bipush 16, []), 0), (20, (.if_icmp .ge 29, [(0, 49)]), 0), (23, (.aload_n 2, []), 0), (24, (.iload_n 3, []), 0), (25, (.invokevirtual 69, [(0, 1), (8, 68)]), 28), (28, (.ifCond .eq 15, [(0, 43)]), 0), (31, (.aload_n 0, []), 0), (32, (.getfield 28, [(4, 5)]), 13), (35, (.iload_n 3, []), 0), (36, (.aload_n 2, []), 0), (37, (.getfield 74, [(8, 1)]), 29), (40, (.iload_n 3, []), 0), (41, (.laload, []), 0), (42, (.lastore, []), 0), (43, (.iinc 3 1, []), 0), (46, (.goto (-29), [(0, 17)]), 0), (49, (.aload_n 0, []), 0), (50, (.getfield 47, [(4, 2)]), 17), (53, (.aload_n 2, []), 0), (54, (.getfield 77, [(8, 3)]), 30), (57, (.iadd, []), 0), (58, (.bipush 32, []), 0), (60, (.if_icmp .gt 10, [(0, 70)]), 0), (63, (.aload_n 0, []), 0), (64, (.invokevirtual 65, [(0, 0), (4, 62)]), 16), (67, (.ifCond .ne 5, [(0, 72)]), 0), (70, (.iconst 0, []), 0), (71, (.ireturn, []), 0), (72, (.iconst 0, []), 0), (73, (.istore_n 3, []), 0), (74, (.iload_n 3, []), 0), (75, (.aload_n 2, []), 0), (76, (.getfield 77, [(8, 3)]), 30), (79, (.if_icmp .ge 25, [(0, 104)]), 0), (82, (.aload_n 0, []), 0), (83, (.aload_n 1, []), 0), (84, (.aload_n 2, []), 0), (85, (.getfield 78, [(8, 4)]), 31), (88, (.iload_n 3, []), 0), (89, (.iaload, []), 0), (90, (.invokevirtual 81, [(0, 2), (4, 63)]), 20), (93, (.ifCond .ne 5, [(0, 98)]), 0), (96, (.iconst 0, []), 0), (97, (.ireturn, []), 0), (98, (.iinc 3 1, []), 0), (101, (.goto (-27), [(0, 74)]), 0), (104, (.iconst 0, []), 0), (105, (.istore_n 3, []), 0), (106, (.iload_n 3, []), 0), (107, (.bipush 16, []), 0), (109, (.if_icmp .ge 28, [(0, 137)]), 0), (112, (.aload_n 2, []), 0), (113, (.iload_n 3, []), 0), (114, (.invokevirtual 69, [(0, 1), (8, 68)]), 28), (117, (.ifCond .eq 14, [(0, 131)]), 0), (120, (.aload_n 0, []), 0), (121, (.iload_n 3, []), 0), (122, (.aload_n 2, []), 0), (123, (.getfield 74, [(8, 1)]), 29), (126, (.iload_n 3, []), 0), (127, (.laload, []), 0), (128, (.invokevirtual 85, [(0, 2), (4, 77)]), 32), (131, (.iinc 3 1, []), 0), (134, (.goto (-28), [(0, 106)]), 0), (137, (.iconst 0, []), 0), (138, (.istore_n 3, []), 0), (139, (.iload_n 3, []), 0), (140, (.aload_n 2, []), 0), (141, (.getfield 77, [(8, 3)]), 30), (144, (.if_icmp .ge 53, [(0, 197)]), 0), (147, (.aload_n 0, []), 0), (148, (.getfield 47, [(4, 2)]), 17), (151, (.bipush 32, []), 0), (153, (.if_icmp .ge 44, [(0, 197)]), 0), (156, (.aload_n 0, []), 0), (157, (.getfield 21, [(4, 3)]), 18), (160, (.aload_n 0, []), 0), (161, (.getfield 47, [(4, 2)]), 17), (164, (.aload_n 1, []), 0), (165, (.aastore, []), 0), (166, (.aload_n 0, []), 0), (167, (.getfield 25, [(4, 4)]), 19), (170, (.aload_n 0, []), 0), (171, (.getfield 47, [(4, 2)]), 17), (174, (.aload_n 2, []), 0), (175, (.getfield 78, [(8, 4)]), 31), (178, (.iload_n 3, []), 0), (179, (.iaload, []), 0), (180, (.iastore, []), 0), (181, (.aload_n 0, []), 0), (182, (.dup, []), 0), (183, (.getfield 47, [(4, 2)]), 17), (186, (.iconst 1, []), 0), (187, (.iadd, []), 0), (188, (.putfield 47, [(4, 2)]), 33), (191, (.iinc 3 1, []), 0), (194, (.goto (-55), [(0, 139)]), 0), (197, (.iconst 1, []), 0), (198, (.ireturn, []), 0)]
def mi_105 : rf_E1 := (mt_105, 5, cd_105)
def mt_106 : rf_Mt := (⟨"MemoryTransactions$Client", "finish", "()V"⟩, prog_3_method_7_code, 1, (Option.none : Option Jvm.ClassFile.FieldType))
def cd_106 : List (Nat × rf_I × Nat) := [(0, (.aload_n 0, []), 0), (1, (.getfield 31, [(6, 5)]), 7), (4, (.ifCond .le 30, [(0, 34)]), 0), (7, (.aload_n 0, []), 0), (8, (.dup, []), 0), (9, (.getfield 31, [(6, 5)]), 7), (12, (.iconst 1, []), 0), (13, (.isub, []), 0), (14, (.putfield 31, [(6, 5)]), 9), (17, (.aload_n 0, []), 0), (18, (.getfield 9, [(6, 3)]), 8), (21, (.iconst 1, []), 0), (22, (.aload_n 0, []), 0), (23, (.getfield 9, [(6, 3)]), 8), (26, (.iconst 0, []), 0), (27, (.aload_n 0, []), 0), (28, (.getfield 31, [(6, 5)]), 7), (31, (.invokestatic 59, [(11, 0)]), 22), (34, (.aload_n 0, []), 0), (35, (.aload_n 0, []), 0), (36, (.getfield 31, [(6, 5)]), 7), (39, (.ifCond .le 7, [(0, 46)]), 0), (42, (.iconst 1, []), 0), (43, (.goto 4, [(0, 47)]), 0), (46, (.iconst 0, []), 0), (47, (.putfield 27, [(6, 0)]), 11), (50, (.aload_n 0, []), 0), (51, (.invokevirtual 34, [(0, 0), (6, 107)]), 23), (54, (.return_, []), 0)]
def mi_106 : rf_E1 := (mt_106, 8, cd_106)
def mt_107 : rf_Mt := (⟨"MemoryTransactions$Client", "forgetCuts", "()V"⟩, prog_3_method_8_code, 1, (Option.none : Option Jvm.ClassFile.FieldType))
def cd_107 : List (Nat × rf_I × Nat) := [(0, (.aload_n 0, []), 0), (1, (.iconst 0, []), 0), (2, (.putfield 46, [(6, 1)]), 16), (5, (.aload_n 0, []), 0), (6, (.iconst 0, []), 0), (7, (.putfield 49, [(6, 2)]), 17), (10, (.return_, []), 0)]
def mi_107 : rf_E1 := (mt_107, 8, cd_107)
def mt_108 : rf_Mt := (⟨"MemoryTransactions", "play", "(JI)I"⟩, prog_1_method_12_code, 8, (Option.some Jvm.ClassFile.FieldType.int))
def cd_108 : List (Nat × rf_I × Nat) := [(0, (.iload_n 3, []), 0), (1, (.ifCond .lt 10, [(0, 11)]), 0), (4, (.iload_n 3, []), 0), (5, (.sipush 2000, []), 0), (8, (.if_icmp .le 5, [(0, 13)]), 0), (11, (.iconst (-1), []), 0), (12, (.ireturn, []), 0), (13, (.lload_n 1, []), 0), (14, (.lstore 4, []), 0), (16, (.iconst 0, []), 0), (17, (.istore 6, []), 0), (19, (.iconst 0, []), 0), (20, (.istore 7, []), 0), (22, (.iload 7, []), 0), (24, (.iload_n 3, []), 0), (25, (.if_icmp .ge 38, [(0, 63)]), 0), (28, (.ldc2_w 126, [(1, 6364136223846793005)]), 75), (31, (.lload 4, []), 0), (33, (.lmul, []), 0), (34, (.ldc2_w 128, [(1, 1442695040888963407)]), 76), (37, (.ladd, []), 0), (38, (.lstore 4, []), 0), (40, (.aload_n 0, []), 0), (41, (.lload 4, []), 0), (43, (.bipush 61, []), 0), (45, (.lushr, []), 0), (46, (.l2i, []), 0), (47, (.invokevirtual 123, [(0, 1), (0, 85)]), 50), (50, (.iconst 1, []), 0), (51, (.if_icmp .ne 6, [(0, 57)]), 0), (54, (.iinc 6 1, []), 0), (57, (.iinc 7 1, []), 0), (60, (.goto (-38), [(0, 22)]), 0), (63, (.iload 6, []), 0), (65, (.ireturn, []), 0)]
def mi_108 : rf_E1 := (mt_108, 1, cd_108)
def mt_109 : rf_Mt := (⟨"MemoryTransactions", "client", "(II)I"⟩, prog_1_method_13_code, 3, (Option.some Jvm.ClassFile.FieldType.int))
def cd_109 : List (Nat × rf_I × Nat) := [(0, (.aload_n 0, []), 0), (1, (.iload_n 1, []), 0), (2, (.invokevirtual 116, [(0, 1), (0, 82)]), 48), (5, (.ifCond .eq 16, [(0, 21)]), 0), (8, (.aload_n 0, []), 0), (9, (.getfield 46, [(0, 7)]), 19), (12, (.iload_n 1, []), 0), (13, (.aaload, []), 0), (14, (.iload_n 2, []), 0), (15, (.invokevirtual 130, [(0, 1), (6, 110)]), 77), (18, (.goto 4, [(0, 22)]), 0), (21, (.iconst (-1), []), 0), (22, (.ireturn, []), 0)]
def mi_109 : rf_E1 := (mt_109, 1, cd_109)
def mt_110 : rf_Mt := (⟨"MemoryTransactions$Client", "tell", "(I)I"⟩, prog_3_method_9_code, 3, (Option.some Jvm.ClassFile.FieldType.int))
def cd_110 : List (Nat × rf_I × Nat) := [(0, (.aload_n 0, []), 0), (1, (.getfield 27, [(6, 0)]), 10), (4, (.iconst 2, []), 0), (5, (.if_icmp .ne 7, [(0, 12)]), 0), (8, (.iconst 1, []), 0), (9, (.goto 4, [(0, 13)]), 0), (12, (.iconst 0, []), 0), (13, (.istore_n 2, []), 0), (14, (.iload_n 1, []), 0), (15, (.tableswitch 180 0 8 #[49, 54, 59, 77, 82, 98, 129, 148, 161], [(0, 195), (0, 64), (1, 69), (2, 74), (3, 92), (4, 97), (5, 113), (6, 144), (7, 163), (8, 176)]), 0), (64, (.aload_n 0, []), 0), (65, (.getfield 27, [(6, 0)]), 10), (68, (.ireturn, []), 0), (69, (.aload_n 0, []), 0), (70, (.getfield 31, [(6, 5)]), 7), (73, (.ireturn, []), 0), (74, (.aload_n 0, []), 0), (75, (.getfield 31, [(6, 5)]), 7), (78, (.ifCond .le 12, [(0, 90)]), 0), (81, (.aload_n 0, []), 0), (82, (.getfield 9, [(6, 3)]), 8), (85, (.iconst 0, []), 0), (86, (.iaload, []), 0), (87, (.goto 4, [(0, 91)]), 0), (90, (.iconst (-1), []), 0), (91, (.ireturn, []), 0), (92, (.aload_n 0, []), 0), (93, (.getfield 46, [(6, 1)]), 15), (96, (.ireturn, []), 0), (97, (.iload_n 2, []), 0), (98, (.ifCond .eq 13, [(0, 111)]), 0), (101, (.aload_n 0, []), 0), (102, (.getfield 23, [(6, 4)]), 18), (105, (.getfield 65, [(7, 1)]), 24), (108, (.goto 4, [(0, 112)]), 0), (111, (.iconst 0, []), 0), (112, (.ireturn, []), 0), (113, (.iload_n 2, []), 0), (114, (.ifCond .eq 13, [(0, 127)]), 0), (117, (.aload_n 0, []), 0), (118, (.getfield 23, [(6, 4)]), 18), (121, (.getfield 53, [(7, 2)]), 19), (124, (.goto 19, [(0, 143)]), 0), (127, (.aload_n 0, []), 0), (128, (.getfield 27, [(6, 0)]), 10), (131, (.iconst 3, []), 0), (132, (.if_icmp .ne 10, [(0, 142)]), 0), (135, (.aload_n 0, []), 0), (136, (.getfield 37, [(6, 6)]), 12), (139, (.goto 4, [(0, 143)]), 0), (142, (.iconst 0, []), 0), (143, (.ireturn, []), 0), (144, (.iload_n 2, []), 0), (145, (.ifCond .eq 16, [(0, 161)]), 0), (148, (.aload_n 0, []), 0), (149, (.getfield 23, [(6, 4)]), 18), (152, (.getfield 68, [(7, 5)]), 25), (155, (.getfield 72, [(8, 0)]), 26), (158, (.goto 4, [(0, 162)]), 0), (161, (.iconst 0, []), 0), (162, (.ireturn, []), 0), (163, (.aload_n 0, []), 0), (164, (.getfield 49, [(6, 2)]), 27), (167, (.ifCond .eq 7, [(0, 174)]), 0), (170, (.iconst 1, []), 0), (171, (.goto 4, [(0, 175)]), 0), (174, (.iconst 0, []), 0), (175, (.ireturn, []), 0), (176, (.iload_n 2, []), 0), (177, (.ifCond .eq 16, [(0, 193)]), 0), (180, (.aload_n 0, []), 0), (181, (.getfield 23, [(6, 4)]), 18), (184, (.getfield 68, [(7, 5)]), 25), (187, (.getfield 77, [(8, 3)]), 28), (190, (.goto 4, [(0, 194)]), 0), (193, (.iconst 0, []), 0), (194, (.ireturn, []), 0), (195, (.iconst (-1), []), 0), (196, (.ireturn, []), 0)]
def mi_110 : rf_E1 := (mt_110, 8, cd_110)
def mt_111 : rf_Mt := (⟨"MemoryTransactions", "sees", "(II)J"⟩, prog_1_method_14_code, 3, (Option.some Jvm.ClassFile.FieldType.long))
def cd_111 : List (Nat × rf_I × Nat) := [(0, (.aload_n 0, []), 0), (1, (.iload_n 1, []), 0), (2, (.invokevirtual 116, [(0, 1), (0, 82)]), 48), (5, (.ifCond .eq 13, [(0, 18)]), 0), (8, (.iload_n 2, []), 0), (9, (.ifCond .lt 9, [(0, 18)]), 0), (12, (.iload_n 2, []), 0), (13, (.bipush 26, []), 0), (15, (.if_icmp .lt 5, [(0, 20)]), 0), (18, (.lconst 0, []), 0), (19, (.lreturn, []), 0), (20, (.aload_n 0, []), 0), (21, (.getfield 46, [(0, 7)]), 19), (24, (.iload_n 1, []), 0), (25, (.aaload, []), 0), (26, (.getfield 133, [(6, 0)]), 51), (29, (.iconst 2, []), 0), (30, (.if_icmp .ne 17, [(0, 47)]), 0), (33, (.aload_n 0, []), 0), (34, (.getfield 46, [(0, 7)]), 19), (37, (.iload_n 1, []), 0), (38, (.aaload, []), 0), (39, (.getfield 136, [(6, 4)]), 53), (42, (.iload_n 2, []), 0), (43, (.invokevirtual 140, [(0, 1), (7, 70)]), 78), (46, (.lreturn, []), 0), (47, (.iload_n 2, []), 0), (48, (.invokestatic 90, [(0, 1), (0, 52)]), 40), (51, (.ifCond .eq 15, [(0, 66)]), 0), (54, (.aload_n 0, []), 0), (55, (.getfield 40, [(0, 6)]), 21), (58, (.getfield 112, [(4, 0)]), 47), (61, (.iload_n 2, []), 0), (62, (.laload, []), 0), (63, (.goto 4, [(0, 67)]), 0), (66, (.lconst 0, []), 0), (67, (.lreturn, []), 0)]
def mi_111 : rf_E1 := (mt_111, 1, cd_111)
def mt_112 : rf_Mt := (⟨"MemoryTransactions", "rules", "()I"⟩, prog_1_method_15_code, 1, (Option.some Jvm.ClassFile.FieldType.int))
def cd_112 : List (Nat × rf_I × Nat) := [(0, (.aload_n 0, []), 0), (1, (.getfield 40, [(0, 6)]), 21), (4, (.getfield 146, [(4, 2)]), 79), (7, (.ireturn, []), 0)]
def mi_112 : rf_E1 := (mt_112, 1, cd_112)
def mt_113 : rf_Mt := (⟨"MemoryTransactions", "rows", "()I"⟩, prog_1_method_16_code, 1, (Option.some Jvm.ClassFile.FieldType.int))
def cd_113 : List (Nat × rf_I × Nat) := [(0, (.aload_n 0, []), 0), (1, (.getfield 56, [(0, 8)]), 41), (4, (.getfield 149, [(9, 0)]), 80), (7, (.ireturn, []), 0)]
def mi_113 : rf_E1 := (mt_113, 1, cd_113)
def mt_114 : rf_Mt := (⟨"MemoryTransactions", "row", "(II)I"⟩, prog_1_method_17_code, 3, (Option.some Jvm.ClassFile.FieldType.int))
def cd_114 : List (Nat × rf_I × Nat) := [(0, (.aload_n 0, []), 0), (1, (.getfield 56, [(0, 8)]), 41), (4, (.iload_n 1, []), 0), (5, (.iload_n 2, []), 0), (6, (.invokevirtual 150, [(0, 2), (9, 115)]), 81), (9, (.ireturn, []), 0)]
def mi_114 : rf_E1 := (mt_114, 1, cd_114)
def mt_115 : rf_Mt := (⟨"MemoryTransactions$Journal", "tell", "(II)I"⟩, prog_5_method_5_code, 3, (Option.some Jvm.ClassFile.FieldType.int))
def cd_115 : List (Nat × rf_I × Nat) := [(0, (.aload_n 0, []), 0), (1, (.iload_n 1, []), 0), (2, (.invokevirtual 39, [(0, 1), (9, 116)]), 18), (5, (.ifCond .ne 5, [(0, 10)]), 0), (8, (.iconst (-1), []), 0), (9, (.ireturn, []), 0), (10, (.iload_n 2, []), 0), (11, (.tableswitch 68 0 4 #[33, 40, 47, 54, 61], [(0, 79), (0, 44), (1, 51), (2, 58), (3, 65), (4, 72)]), 0), (44, (.aload_n 0, []), 0), (45, (.getfield 9, [(9, 1)]), 11), (48, (.iload_n 1, []), 0), (49, (.iaload, []), 0), (50, (.ireturn, []), 0), (51, (.aload_n 0, []), 0), (52, (.getfield 15, [(9, 2)]), 12), (55, (.iload_n 1, []), 0), (56, (.iaload, []), 0), (57, (.ireturn, []), 0), (58, (.aload_n 0, []), 0), (59, (.getfield 18, [(9, 3)]), 13), (62, (.iload_n 1, []), 0), (63, (.iaload, []), 0), (64, (.ireturn, []), 0), (65, (.aload_n 0, []), 0), (66, (.getfield 21, [(9, 4)]), 14), (69, (.iload_n 1, []), 0), (70, (.iaload, []), 0), (71, (.ireturn, []), 0), (72, (.aload_n 0, []), 0), (73, (.getfield 24, [(9, 5)]), 15), (76, (.iload_n 1, []), 0), (77, (.iaload, []), 0), (78, (.ireturn, []), 0), (79, (.iconst (-1), []), 0), (80, (.ireturn, []), 0)]
def mi_115 : rf_E1 := (mt_115, 11, cd_115)
def mt_116 : rf_Mt := (⟨"MemoryTransactions$Journal", "has", "(I)Z"⟩, prog_5_method_3_code, 2, (Option.some Jvm.ClassFile.FieldType.boolean))
def cd_116 : List (Nat × rf_I × Nat) := [(0, (.iload_n 1, []), 0), (1, (.ifCond .lt 22, [(0, 23)]), 0), (4, (.iload_n 1, []), 0), (5, (.aload_n 0, []), 0), (6, (.getfield 31, [(9, 0)]), 9), (9, (.if_icmp .ge 14, [(0, 23)]), 0), (12, (.iload_n 1, []), 0), (13, (.sipush 300, []), 0), (16, (.if_icmp .ge 7, [(0, 23)]), 0), (19, (.iconst 1, []), 0), (20, (.goto 4, [(0, 24)]), 0), (23, (.iconst 0, []), 0), (24, (.ireturn, []), 0)]
def mi_116 : rf_E1 := (mt_116, 11, cd_116)
def mt_117 : rf_Mt := (⟨"MemoryTransactions", "value", "(I)J"⟩, prog_1_method_18_code, 2, (Option.some Jvm.ClassFile.FieldType.long))
def cd_117 : List (Nat × rf_I × Nat) := [(0, (.aload_n 0, []), 0), (1, (.getfield 56, [(0, 8)]), 41), (4, (.iload_n 1, []), 0), (5, (.invokevirtual 153, [(0, 1), (9, 116)]), 82), (8, (.ifCond .eq 15, [(0, 23)]), 0), (11, (.aload_n 0, []), 0), (12, (.getfield 56, [(0, 8)]), 41), (15, (.getfield 156, [(9, 6)]), 83), (18, (.iload_n 1, []), 0), (19, (.laload, []), 0), (20, (.goto 4, [(0, 24)]), 0), (23, (.lconst 0, []), 0), (24, (.lreturn, []), 0)]
def mi_117 : rf_E1 := (mt_117, 1, cd_117)
def mt_118 : rf_Mt := (⟨"MemoryTransactions", "replays", "()I"⟩, prog_1_method_19_code, 2, (Option.some Jvm.ClassFile.FieldType.int))
def cd_118 : List (Nat × rf_I × Nat) := [(0, (.aload_n 0, []), 0), (1, (.getfield 65, [(0, 9)]), 84), (4, (.getfield 157, [(10, 1)]), 85), (7, (.istore_n 1, []), 0), (8, (.iload_n 1, []), 0), (9, (.aload_n 0, []), 0), (10, (.getfield 56, [(0, 8)]), 41), (13, (.getfield 149, [(9, 0)]), 80), (16, (.if_icmp .ge 21, [(0, 37)]), 0), (19, (.aload_n 0, []), 0), (20, (.getfield 65, [(0, 9)]), 84), (23, (.aload_n 0, []), 0), (24, (.getfield 56, [(0, 8)]), 41), (27, (.iload_n 1, []), 0), (28, (.invokevirtual 160, [(0, 2), (10, 119)]), 86), (31, (.iinc 1 1, []), 0), (34, (.goto (-26), [(0, 8)]), 0), (37, (.aload_n 0, []), 0), (38, (.getfield 65, [(0, 9)]), 84), (41, (.getfield 164, [(10, 2)]), 87), (44, (.ifCond .eq 24, [(0, 68)]), 0), (47, (.aload_n 0, []), 0), (48, (.getfield 40, [(0, 6)]), 21), (51, (.aload_n 0, []), 0), (52, (.getfield 65, [(0, 9)]), 84), (55, (.getfield 168, [(10, 0)]), 88), (58, (.invokevirtual 169, [(0, 1), (4, 121)]), 89), (61, (.ifCond .eq 7, [(0, 68)]), 0), (64, (.iconst 1, []), 0), (65, (.goto 4, [(0, 69)]), 0), (68, (.iconst 0, []), 0), (69, (.ireturn, []), 0)]
def mi_118 : rf_E1 := (mt_118, 1, cd_118)
def mt_119 : rf_Mt := (⟨"MemoryTransactions$Replay", "redo", "(LMemoryTransactions$Journal;I)V"⟩, prog_9_method_3_code, 6, (Option.none : Option Jvm.ClassFile.FieldType))
def cd_119 : List (Nat × rf_I × Nat) := [(0, (.aload_n 0, []), 0), (1, (.iload_n 2, []), 0), (2, (.iconst 1, []), 0), (3, (.iadd, []), 0), (4, (.putfield 31, [(10, 1)]), 9), (7, (.aload_n 1, []), 0), (8, (.iload_n 2, []), 0), (9, (.invokevirtual 42, [(0, 1), (9, 116)]), 11), (12, (.ifCond .ne 4, [(0, 16)]), 0), (15, (.return_, []), 0), (16, (.aload_n 1, []), 0), (17, (.getfield 48, [(9, 3)]), 12), (20, (.iload_n 2, []), 0), (21, (.iaload, []), 0), (22, (.istore_n 3, []), 0), (23, (.aload_n 1, []), 0), (24, (.getfield 52, [(9, 1)]), 13), (27, (.iload_n 2, []), 0), (28, (.iaload, []), 0), (29, (.ifCond .ne 51, [(0, 80)]), 0), (32, (.aload_n 0, []), 0), (33, (.aload_n 0, []), 0), (34, (.getfield 35, [(10, 2)]), 14), (37, (.ifCond .eq 24, [(0, 61)]), 0), (40, (.aload_n 0, []), 0), (41, (.getfield 18, [(10, 0)]), 6), (44, (.iload_n 3, []), 0), (45, (.aload_n 1, []), 0), (46, (.getfield 55, [(9, 6)]), 15), (49, (.iload_n 2, []), 0), (50, (.laload, []), 0), (51, (.invokevirtual 59, [(0, 2), (4, 61)]), 16), (54, (.ifCond .eq 7, [(0, 61)]), 0), (57, (.iconst 1, []), 0), (58, (.goto 4, [(0, 62)]), 0), (61, (.iconst 0, []), 0), (62, (.putfield 35, [(10, 2)]), 10), (65, (.aload_n 0, []), 0), (66, (.getfield 18, [(10, 0)]), 6), (69, (.iload_n 3, []), 0), (70, (.aload_n 1, []), 0), (71, (.getfield 55, [(9, 6)]), 15), (74, (.iload_n 2, []), 0), (75, (.laload, []), 0), (76, (.invokevirtual 63, [(0, 2), (4, 77)]), 17), (79, (.return_, []), 0), (80, (.iload_n 3, []), 0), (81, (.ifCond .lt 12, [(0, 93)]), 0), (84, (.iload_n 3, []), 0), (85, (.aload_n 0, []), 0), (86, (.getfield 9, [(10, 3)]), 18), (89, (.arraylength, []), 0), (90, (.if_icmp .lt 9, [(0, 99)]), 0), (93, (.aload_n 0, []), 0), (94, (.iconst 0, []), 0), (95, (.putfield 35, [(10, 2)]), 10), (98, (.return_, []), 0), (99, (.aload_n 0, []), 0), (100, (.getfield 27, [(10, 4)]), 19), (103, (.aload_n 0, []), 0), (104, (.getfield 9, [(10, 3)]), 18), (107, (.iload_n 3, []), 0), (108, (.aaload, []), 0), (109, (.invokevirtual 67, [(0, 1), (7, 87)]), 20), (112, (.iconst 0, []), 0), (113, (.istore 4, []), 0), (115, (.iconst 0, []), 0), (116, (.istore 5, []), 0), (118, (.iload 5, []), 0), (120, (.sipush 300, []), 0), (123, (.if_icmp .gt 23, [(0, 146)]), 0), (126, (.iload 4, []), 0), (128, (.ifCond .ne 18, [(0, 146)]), 0), (131, (.aload_n 0, []), 0), (132, (.getfield 27, [(10, 4)]), 19), (135, (.invokevirtual 71, [(0, 0), (7, 90)]), 21), (138, (.istore 4, []), 0), (140, (.iinc 5 1, []), 0), (143, (.goto (-25), [(0, 118)]), 0), (146, (.iload 4, []), 0), (148, (.iconst 1, []), 0), (149, (.if_icmp .ne 31, [(0, 180)]), 0), (152, (.aload_n 0, []), 0), (153, (.getfield 18, [(10, 0)]), 6), (156, (.aload_n 0, []), 0), (157, (.getfield 27, [(10, 4)]), 19), (160, (.getfield 75, [(7, 0)]), 22), (163, (.aload_n 0, []), 0), (164, (.getfield 27, [(10, 4)]), 19), (167, (.getfield 79, [(7, 5)]), 23), (170, (.invokevirtual 83, [(0, 2), (4, 105)]), 24), (173, (.ifCond .eq 7, [(0, 180)]), 0), (176, (.iconst 1, []), 0), (177, (.goto 4, [(0, 181)]), 0), (180, (.iconst 0, []), 0), (181, (.istore 5, []), 0), (183, (.aload_n 0, []), 0), (184, (.aload_n 0, []), 0), (185, (.getfield 35, [(10, 2)]), 14), (188, (.ifCond .eq 38, [(0, 226)]), 0), (191, (.aload_n 0, []), 0), (192, (.getfield 27, [(10, 4)]), 19), (195, (.getfield 87, [(7, 1)]), 25), (198, (.iconst 1, []), 0), (199, (.iadd, []), 0), (200, (.aload_n 1, []), 0), (201, (.getfield 90, [(9, 4)]), 26), (204, (.iload_n 2, []), 0), (205, (.iaload, []), 0), (206, (.if_icmp .ne 20, [(0, 226)]), 0), (209, (.aload_n 0, []), 0), (210, (.aload_n 1, []), 0), (211, (.iload_n 2, []), 0), (212, (.iload 4, []), 0), (214, (.iload 5, []), 0), (216, (.invokevirtual 92, [(0, 4), (10, 120)]), 27), (219, (.ifCond .eq 7, [(0, 226)]), 0), (222, (.iconst 1, []), 0), (223, (.goto 4, [(0, 227)]), 0), (226, (.iconst 0, []), 0), (227, (.putfield 35, [(10, 2)]), 10), (230, (.return_, []), 0)]
def mi_119 : rf_E1 := (mt_119, 12, cd_119)
def mt_120 : rf_Mt := (⟨"MemoryTransactions$Replay", "isTold", "(LMemoryTransactions$Journal;IIZ)Z"⟩, prog_9_method_4_code, 5, (Option.some Jvm.ClassFile.FieldType.boolean))
def cd_120 : List (Nat × rf_I × Nat) := [(0, (.iload 4, []), 0), (2, (.ifCond .eq 19, [(0, 21)]), 0), (5, (.aload_n 1, []), 0), (6, (.getfield 52, [(9, 1)]), 13), (9, (.iload_n 2, []), 0), (10, (.iaload, []), 0), (11, (.iconst 1, []), 0), (12, (.if_icmp .ne 7, [(0, 19)]), 0), (15, (.iconst 1, []), 0), (16, (.goto 4, [(0, 20)]), 0), (19, (.iconst 0, []), 0), (20, (.ireturn, []), 0), (21, (.aload_n 1, []), 0), (22, (.getfield 52, [(9, 1)]), 13), (25, (.iload_n 2, []), 0), (26, (.iaload, []), 0), (27, (.iconst 2, []), 0), (28, (.if_icmp .eq 5, [(0, 33)]), 0), (31, (.iconst 0, []), 0), (32, (.ireturn, []), 0), (33, (.iload_n 3, []), 0), (34, (.iconst 1, []), 0), (35, (.if_icmp .ne 16, [(0, 51)]), 0), (38, (.aload_n 1, []), 0), (39, (.getfield 55, [(9, 6)]), 15), (42, (.iload_n 2, []), 0), (43, (.laload, []), 0), (44, (.ldc2_w 96, [(1, 18446744073709551614)]), 28), (47, (.lcmp, []), 0), (48, (.ifCond .eq 25, [(0, 73)]), 0), (51, (.iload_n 3, []), 0), (52, (.iconst 2, []), 0), (53, (.if_icmp .ne 24, [(0, 77)]), 0), (56, (.aload_n 1, []), 0), (57, (.getfield 55, [(9, 6)]), 15), (60, (.iload_n 2, []), 0), (61, (.laload, []), 0), (62, (.aload_n 0, []), 0), (63, (.getfield 27, [(10, 4)]), 19), (66, (.getfield 98, [(7, 3)]), 29), (69, (.lcmp, []), 0), (70, (.ifCond .ne 7, [(0, 77)]), 0), (73, (.iconst 1, []), 0), (74, (.goto 4, [(0, 78)]), 0), (77, (.iconst 0, []), 0), (78, (.ireturn, []), 0)]
def mi_120 : rf_E1 := (mt_120, 12, cd_120)
def mt_121 : rf_Mt := (⟨"MemoryTransactions$Store", "isLike", "(LMemoryTransactions$Store;)Z"⟩, prog_12_method_10_code, 3, (Option.some Jvm.ClassFile.FieldType.boolean))
def cd_121 : List (Nat × rf_I × Nat) := [(0, (.aload_n 0, []), 0), (1, (.getfield 47, [(4, 2)]), 17), (4, (.aload_n 1, []), 0), (5, (.getfield 47, [(4, 2)]), 17), (8, (.if_icmp .eq 5, [(0, 13)]), 0), (11, (.iconst 0, []), 0), (12, (.ireturn, []), 0), (13, (.iconst 0, []), 0), (14, (.istore_n 2, []), 0), (15, (.iload_n 2, []), 0), (16, (.bipush 16, []), 0), (18, (.if_icmp .ge 42, [(0, 60)]), 0), (21, (.aload_n 0, []), 0), (22, (.getfield 9, [(4, 0)]), 12), (25, (.iload_n 2, []), 0), (26, (.laload, []), 0), (27, (.aload_n 1, []), 0), (28, (.getfield 9, [(4, 0)]), 12), (31, (.iload_n 2, []), 0), (32, (.laload, []), 0), (33, (.lcmp, []), 0), (34, (.ifCond .ne 18, [(0, 52)]), 0), (37, (.aload_n 0, []), 0), (38, (.getfield 15, [(4, 1)]), 26), (41, (.iload_n 2, []), 0), (42, (.iaload, []), 0), (43, (.aload_n 1, []), 0), (44, (.getfield 15, [(4, 1)]), 26), (47, (.iload_n 2, []), 0), (48, (.iaload, []), 0), (49, (.if_icmp .eq 5, [(0, 54)]), 0), (52, (.iconst 0, []), 0), (53, (.ireturn, []), 0), (54, (.iinc 2 1, []), 0), (57, (.goto (-42), [(0, 15)]), 0), (60, (.iconst 0, []), 0), (61, (.istore_n 2, []), 0), (62, (.iload_n 2, []), 0), (63, (.aload_n 0, []), 0), (64, (.getfield 47, [(4, 2)]), 17), (67, (.if_icmp .ge 41, [(0, 108)]), 0), (70, (.aload_n 0, []), 0), (71, (.getfield 21, [(4, 3)]), 18), (74, (.iload_n 2, []), 0), (75, (.aaload, []), 0), (76, (.aload_n 1, []), 0), (77, (.getfield 21, [(4, 3)]), 18), (80, (.iload_n 2, []), 0), (81, (.aaload, []), 0), (82, (.if_acmp .ne 18, [(0, 100)]), 0), (85, (.aload_n 0, []), 0), (86, (.getfield 25, [(4, 4)]), 19), (89, (.iload_n 2, []), 0), (90, (.iaload, []), 0), (91, (.aload_n 1, []), 0), (92, (.getfield 25, [(4, 4)]), 19), (95, (.iload_n 2, []), 0), (96, (.iaload, []), 0), (97, (.if_icmp .eq 5, [(0, 102)]), 0), (100, (.iconst 0, []), 0), (101, (.ireturn, []), 0), (102, (.iinc 2 1, []), 0), (105, (.goto (-43), [(0, 62)]), 0), (108, (.iconst 1, []), 0), (109, (.ireturn, []), 0)]
def mi_121 : rf_E1 := (mt_121, 5, cd_121)
def mt_122 : rf_Mt := (⟨"MemoryTransactions", "clear", "()I"⟩, prog_1_method_20_code, 3, (Option.some Jvm.ClassFile.FieldType.int))
def cd_122 : List (Nat × rf_I × Nat) := [(0, (.aload_n 0, []), 0), (1, (.getfield 56, [(0, 8)]), 41), (4, (.getfield 149, [(9, 0)]), 80), (7, (.istore_n 1, []), 0), (8, (.aload_n 0, []), 0), (9, (.getfield 56, [(0, 8)]), 41), (12, (.iconst 0, []), 0), (13, (.putfield 149, [(9, 0)]), 90), (16, (.aload_n 0, []), 0), (17, (.getfield 40, [(0, 6)]), 21), (20, (.invokevirtual 173, [(0, 0), (4, 123)]), 91), (23, (.aload_n 0, []), 0), (24, (.getfield 65, [(0, 9)]), 84), (27, (.invokevirtual 176, [(0, 0), (10, 125)]), 92), (30, (.iconst 0, []), 0), (31, (.istore_n 2, []), 0), (32, (.iload_n 2, []), 0), (33, (.bipush 8, []), 0), (35, (.if_icmp .ge 18, [(0, 53)]), 0), (38, (.aload_n 0, []), 0), (39, (.getfield 46, [(0, 7)]), 19), (42, (.iload_n 2, []), 0), (43, (.aaload, []), 0), (44, (.invokevirtual 177, [(0, 0), (6, 126)]), 93), (47, (.iinc 2 1, []), 0), (50, (.goto (-18), [(0, 32)]), 0), (53, (.aload_n 0, []), 0), (54, (.iconst (-1), []), 0), (55, (.putfield 27, [(0, 4)]), 10), (58, (.iload_n 1, []), 0), (59, (.ireturn, []), 0)]
def mi_122 : rf_E1 := (mt_122, 1, cd_122)
def mt_123 : rf_Mt := (⟨"MemoryTransactions$Store", "reset", "()V"⟩, prog_12_method_2_code, 1, (Option.none : Option Jvm.ClassFile.FieldType))
def cd_123 : List (Nat × rf_I × Nat) := [(0, (.aload_n 0, []), 0), (1, (.getfield 9, [(4, 0)]), 12), (4, (.lconst 0, []), 0), (5, (.invokestatic 38, [(0, 2), (0, 89)]), 34), (8, (.aload_n 0, []), 0), (9, (.getfield 15, [(4, 1)]), 26), (12, (.iconst 0, []), 0), (13, (.invokestatic 44, [(0, 2), (0, 124)]), 35), (16, (.aload_n 0, []), 0), (17, (.iconst 0, []), 0), (18, (.putfield 47, [(4, 2)]), 33), (21, (.return_, []), 0)]
def mi_123 : rf_E1 := (mt_123, 5, cd_123)
def mt_124 : rf_Mt := (⟨"java/util/Arrays", "fill", "([II)V"⟩, prog_20_method_103_code, 4, (Option.none : Option Jvm.ClassFile.FieldType))
def cd_124 : List (Nat × rf_I × Nat) := [(0, (.iconst 0, []), 0), (1, (.istore_n 2, []), 0), (2, (.aload_n 0, []), 0), (3, (.arraylength, []), 0), (4, (.istore_n 3, []), 0), (5, (.iload_n 2, []), 0), (6, (.iload_n 3, []), 0), (7, (.if_icmp .ge 13, [(0, 20)]), 0), (10, (.aload_n 0, []), 0), (11, (.iload_n 2, []), 0), (12, (.iload_n 1, []), 0), (13, (.iastore, []), 0), (14, (.iinc 2 1, []), 0), (17, (.goto (-12), [(0, 5)]), 0), (20, (.return_, []), 0)]
def mi_124 : rf_E1 := (mt_124, 16, cd_124)
def mt_125 : rf_Mt := (⟨"MemoryTransactions$Replay", "reset", "()V"⟩, prog_9_method_2_code, 1, (Option.none : Option Jvm.ClassFile.FieldType))
def cd_125 : List (Nat × rf_I × Nat) := [(0, (.aload_n 0, []), 0), (1, (.getfield 18, [(10, 0)]), 6), (4, (.invokevirtual 39, [(0, 0), (4, 123)]), 30), (7, (.aload_n 0, []), 0), (8, (.iconst 0, []), 0), (9, (.putfield 31, [(10, 1)]), 9), (12, (.aload_n 0, []), 0), (13, (.iconst 1, []), 0), (14, (.putfield 35, [(10, 2)]), 10), (17, (.return_, []), 0)]
def mi_125 : rf_E1 := (mt_125, 12, cd_125)
def mt_126 : rf_Mt := (⟨"MemoryTransactions$Client", "reset", "()V"⟩, prog_3_method_2_code, 1, (Option.none : Option Jvm.ClassFile.FieldType))
def cd_126 : List (Nat × rf_I × Nat) := [(0, (.aload_n 0, []), 0), (1, (.iconst 0, []), 0), (2, (.putfield 27, [(6, 0)]), 11), (5, (.aload_n 0, []), 0), (6, (.iconst 0, []), 0), (7, (.putfield 31, [(6, 5)]), 9), (10, (.aload_n 0, []), 0), (11, (.invokevirtual 34, [(0, 0), (6, 107)]), 23), (14, (.return_, []), 0)]
def mi_126 : rf_E1 := (mt_126, 8, cd_126)
def mt_127 : rf_Mt := (⟨"MemoryTransactionsModel", "<init>", "()V"⟩, prog_14_method_1_code, 1, (Option.none : Option Jvm.ClassFile.FieldType))
def cd_127 : List (Nat × rf_I × Nat) := [(0, (.aload_n 0, []), 0), (1, (.invokespecial 1, [(10, 0)]), 0), (4, (.aload_n 0, []), 0), (5, (.sipush 800, []), 0), (8, (.newarray .byte, []), 1), (10, (.putfield 7, [(11, 1)]), 2), (13, (.aload_n 0, []), 0), (14, (.iconst (-1), []), 0), (15, (.putfield 13, [(11, 10)]), 3), (18, (.aload_n 0, []), 0), (19, (.bipush 12, []), 0), (21, (.newarray .int, []), 4), (23, (.putfield 17, [(11, 12)]), 5), (26, (.aload_n 0, []), 0), (27, (.bipush 12, []), 0), (29, (.newarray .int, []), 4), (31, (.putfield 21, [(11, 13)]), 6), (34, (.aload_n 0, []), 0), (35, (.bipush 12, []), 0), (37, (.newarray .int, []), 4), (39, (.putfield 24, [(11, 14)]), 7), (42, (.aload_n 0, []), 0), (43, (.bipush 12, []), 0), (45, (.newarray .int, []), 4), (47, (.putfield 27, [(11, 15)]), 8), (50, (.aload_n 0, []), 0), (51, (.bipush 12, []), 0), (53, (.newarray .int, []), 4), (55, (.putfield 30, [(11, 16)]), 9), (58, (.aload_n 0, []), 0), (59, (.sipush 480, []), 0), (62, (.newarray .int, []), 4), (64, (.putfield 33, [(11, 17)]), 10), (67, (.aload_n 0, []), 0), (68, (.sipush 480, []), 0), (71, (.newarray .int, []), 4), (73, (.putfield 36, [(11, 18)]), 11), (76, (.aload_n 0, []), 0), (77, (.sipush 480, []), 0), (80, (.newarray .int, []), 4), (82, (.putfield 39, [(11, 19)]), 12), (85, (.aload_n 0, []), 0), (86, (.sipush 480, []), 0), (89, (.newarray .int, []), 4), (91, (.putfield 42, [(11, 20)]), 13), (94, (.aload_n 0, []), 0), (95, (.sipush 480, []), 0), (98, (.newarray .int, []), 4), (100, (.putfield 45, [(11, 21)]), 14), (103, (.aload_n 0, []), 0), (104, (.sipush 480, []), 0), (107, (.newarray .int, []), 4), (109, (.putfield 48, [(11, 22)]), 15), (112, (.aload_n 0, []), 0), (113, (.sipush 480, []), 0), (116, (.newarray .int, []), 4), (118, (.putfield 51, [(11, 23)]), 16), (121, (.aload_n 0, []), 0), (122, (.sipush 480, []), 0), (125, (.newarray .int, []), 4), (127, (.putfield 54, [(11, 24)]), 17), (130, (.aload_n 0, []), 0), (131, (.sipush 2400, []), 0), (134, (.newarray .int, []), 4), (136, (.putfield 57, [(11, 25)]), 18), (139, (.aload_n 0, []), 0), (140, (.sipush 2400, []), 0), (143, (.newarray .int, []), 4), (145, (.putfield 60, [(11, 26)]), 19), (148, (.aload_n 0, []), 0), (149, (.sipush 2400, []), 0), (152, (.newarray .long, []), 20), (154, (.putfield 63, [(11, 27)]), 21), (157, (.aload_n 0, []), 0), (158, (.bipush 64, []), 0), (160, (.newarray .int, []), 4), (162, (.putfield 67, [(11, 29)]), 22), (165, (.aload_n 0, []), 0), (166, (.bipush 16, []), 0), (168, (.newarray .boolean, []), 23), (170, (.putfield 70, [(11, 32)]), 24), (173, (.aload_n 0, []), 0), (174, (.bipush 10, []), 0), (176, (.newarray .int, []), 4), (178, (.putfield 74, [(11, 34)]), 25), (181, (.aload_n 0, []), 0), (182, (.bipush 10, []), 0), (184, (.newarray .int, []), 4), (186, (.putfield 77, [(11, 35)]), 26), (189, (.aload_n 0, []), 0), (190, (.bipush 10, []), 0), (192, (.newarray .int, []), 4), (194, (.putfield 80, [(11, 36)]), 27), (197, (.aload_n 0, []), 0), (198, (.bipush 32, []), 0), (200, (.newarray .long, []), 20), (202, (.putfield 83, [(11, 38)]), 28), (205, (.aload_n 0, []), 0), (206, (.bipush 32, []), 0), (208, (.newarray .int, []), 4), (210, (.putfield 86, [(11, 39)]), 29), (213, (.aload_n 0, []), 0), (214, (.iconst 2, []), 0), (215, (.newarray .int, []), 4), (217, (.putfield 89, [(11, 40)]), 30), (220, (.aload_n 0, []), 0), (221, (.bipush 64, []), 0), (223, (.newarray .int, []), 4), (225, (.putfield 92, [(11, 41)]), 31), (228, (.aload_n 0, []), 0), (229, (.sipush 128, []), 0), (232, (.newarray .int, []), 4), (234, (.putfield 95, [(11, 43)]), 32), (237, (.aload_n 0, []), 0), (238, (.bipush 8, []), 0), (240, (.newarray .int, []), 4), (242, (.putfield 98, [(11, 44)]), 33), (245, (.aload_n 0, []), 0), (246, (.bipush 8, []), 0), (248, (.newarray .int, []), 4), (250, (.putfield 101, [(11, 45)]), 34), (253, (.aload_n 0, []), 0), (254, (.bipush 8, []), 0), (256, (.newarray .int, []), 4), (258, (.putfield 104, [(11, 46)]), 35), (261, (.aload_n 0, []), 0), (262, (.bipush 8, []), 0), (264, (.newarray .int, []), 4), (266, (.putfield 107, [(11, 47)]), 36), (269, (.aload_n 0, []), 0), (270, (.bipush 8, []), 0), (272, (.newarray .boolean, []), 23), (274, (.putfield 110, [(11, 48)]), 37), (277, (.aload_n 0, []), 0), (278, (.bipush 8, []), 0), (280, (.newarray .int, []), 4), (282, (.putfield 113, [(11, 49)]), 38), (285, (.aload_n 0, []), 0), (286, (.sipush 128, []), 0), (289, (.newarray .long, []), 20), (291, (.putfield 116, [(11, 50)]), 39), (294, (.aload_n 0, []), 0), (295, (.sipush 128, []), 0), (298, (.newarray .int, []), 4), (300, (.putfield 119, [(11, 51)]), 40), (303, (.aload_n 0, []), 0), (304, (.bipush 16, []), 0), (306, (.newarray .long, []), 20), (308, (.putfield 122, [(11, 53)]), 41), (311, (.aload_n 0, []), 0), (312, (.bipush 16, []), 0), (314, (.newarray .int, []), 4), (316, (.putfield 125, [(11, 54)]), 42), (319, (.aload_n 0, []), 0), (320, (.bipush 16, []), 0), (322, (.newarray .long, []), 20), (324, (.putfield 128, [(11, 56)]), 43), (327, (.aload_n 0, []), 0), (328, (.bipush 10, []), 0), (330, (.newarray .long, []), 20), (332, (.putfield 131, [(11, 57)]), 44), (335, (.aload_n 0, []), 0), (336, (.sipush 400, []), 0), (339, (.newarray .int, []), 4), (341, (.putfield 134, [(11, 59)]), 45), (344, (.aload_n 0, []), 0), (345, (.sipush 480, []), 0), (348, (.newarray .int, []), 4), (350, (.putfield 137, [(11, 61)]), 46), (353, (.aload_n 0, []), 0), (354, (.sipush 7680, []), 0), (357, (.newarray .long, []), 20), (359, (.putfield 140, [(11, 62)]), 47), (362, (.aload_n 0, []), 0), (363, (.sipush 4800, []), 0), (366, (.newarray .long, []), 20), (368, (.putfield 143, [(11, 63)]), 48), (371, (.aload_n 0, []), 0), (372, (.sipush 480, []), 0), (375, (.newarray .int, []), 4), (377, (.putfield 146, [(11, 64)]), 49), (380, (.aload_n 0, []), 0), (381, (.bipush 64, []), 0), (383, (.newarray .long, []), 20), (385, (.putfield 149, [(11, 67)]), 50), (388, (.aload_n 0, []), 0), (389, (.bipush 16, []), 0), (391, (.newarray .long, []), 20), (393, (.putfield 152, [(11, 68)]), 51), (396, (.aload_n 0, []), 0), (397, (.sipush 300, []), 0), (400, (.newarray .int, []), 4), (402, (.putfield 155, [(11, 70)]), 52), (405, (.aload_n 0, []), 0), (406, (.sipush 300, []), 0), (409, (.newarray .int, []), 4), (411, (.putfield 158, [(11, 71)]), 53), (414, (.aload_n 0, []), 0), (415, (.sipush 300, []), 0), (418, (.newarray .int, []), 4), (420, (.putfield 161, [(11, 72)]), 54), (423, (.aload_n 0, []), 0), (424, (.sipush 300, []), 0), (427, (.newarray .int, []), 4), (429, (.putfield 164, [(11, 73)]), 55), (432, (.aload_n 0, []), 0), (433, (.sipush 300, []), 0), (436, (.newarray .int, []), 4), (438, (.putfield 167, [(11, 74)]), 56), (441, (.aload_n 0, []), 0), (442, (.sipush 300, []), 0), (445, (.newarray .long, []), 20), (447, (.putfield 170, [(11, 75)]), 57), (450, (.return_, []), 0)]
def mi_127 : rf_E1 := (mt_127, 17, cd_127)
def mt_128 : rf_Mt := (⟨"MemoryTransactionsModel", "feed", "(IIIII)I"⟩, prog_14_method_24_code, 9, (Option.some Jvm.ClassFile.FieldType.int))
def cd_128 : List (Nat × rf_I × Nat) := [(0, (.aload_n 0, []), 0), (1, (.iconst 0, []), 0), (2, (.putfield 173, [(11, 0)]), 58), (5, (.aload_n 0, []), 0), (6, (.getfield 176, [(11, 2)]), 59), (9, (.bipush 20, []), 0), (11, (.iadd, []), 0), (12, (.sipush 800, []), 0), (15, (.if_icmp .le 5, [(0, 20)]), 0), (18, (.iconst (-1), []), 0), (19, (.ireturn, []), 0), (20, (.iconst 0, []), 0), (21, (.istore 6, []), 0), (23, (.iload 6, []), 0), (25, (.bipush 20, []), 0), (27, (.if_icmp .ge 92, [(0, 119)]), 0), (30, (.iload 6, []), 0), (32, (.iconst 4, []), 0), (33, (.idiv, []), 0), (34, (.istore 7, []), 0), (36, (.iload 7, []), 0), (38, (.ifCond .ne 7, [(0, 45)]), 0), (41, (.iload_n 1, []), 0), (42, (.goto 36, [(0, 78)]), 0), (45, (.iload 7, []), 0), (47, (.iconst 1, []), 0), (48, (.if_icmp .ne 7, [(0, 55)]), 0), (51, (.iload_n 2, []), 0), (52, (.goto 26, [(0, 78)]), 0), (55, (.iload 7, []), 0), (57, (.iconst 2, []), 0), (58, (.if_icmp .ne 7, [(0, 65)]), 0), (61, (.iload_n 3, []), 0), (62, (.goto 16, [(0, 78)]), 0), (65, (.iload 7, []), 0), (67, (.iconst 3, []), 0), (68, (.if_icmp .ne 8, [(0, 76)]), 0), (71, (.iload 4, []), 0), (73, (.goto 5, [(0, 78)]), 0), (76, (.iload 5, []), 0), (78, (.istore 8, []), 0), (80, (.aload_n 0, []), 0), (81, (.getfield 7, [(11, 1)]), 60), (84, (.aload_n 0, []), 0), (85, (.getfield 176, [(11, 2)]), 59), (88, (.iload 8, []), 0), (90, (.bipush 24, []), 0), (92, (.bipush 8, []), 0), (94, (.iload 6, []), 0), (96, (.iconst 4, []), 0), (97, (.irem, []), 0), (98, (.imul, []), 0), (99, (.isub, []), 0), (100, (.ishr, []), 0), (101, (.i2b, []), 0), (102, (.bastore, []), 0), (103, (.aload_n 0, []), 0), (104, (.dup, []), 0), (105, (.getfield 176, [(11, 2)]), 59), (108, (.iconst 1, []), 0), (109, (.iadd, []), 0), (110, (.putfield 176, [(11, 2)]), 61), (113, (.iinc 6 1, []), 0), (116, (.goto (-93), [(0, 23)]), 0), (119, (.aload_n 0, []), 0), (120, (.getfield 176, [(11, 2)]), 59), (123, (.ireturn, []), 0)]
def mi_128 : rf_E1 := (mt_128, 17, cd_128)
def mt_129 : rf_Mt := (⟨"MemoryTransactionsModel", "end", "(I)I"⟩, prog_14_method_25_code, 2, (Option.some Jvm.ClassFile.FieldType.int))
def cd_129 : List (Nat × rf_I × Nat) := [(0, (.aload_n 0, []), 0), (1, (.iconst 0, []), 0), (2, (.putfield 173, [(11, 0)]), 58), (5, (.iload_n 1, []), 0), (6, (.ifCond .lt 18, [(0, 24)]), 0), (9, (.iload_n 1, []), 0), (10, (.bipush 20, []), 0), (12, (.if_icmp .gt 12, [(0, 24)]), 0), (15, (.aload_n 0, []), 0), (16, (.getfield 176, [(11, 2)]), 59), (19, (.bipush 20, []), 0), (21, (.if_icmp .ge 5, [(0, 26)]), 0), (24, (.iconst (-1), []), 0), (25, (.ireturn, []), 0), (26, (.aload_n 0, []), 0), (27, (.dup, []), 0), (28, (.getfield 176, [(11, 2)]), 59), (31, (.bipush 20, []), 0), (33, (.iload_n 1, []), 0), (34, (.isub, []), 0), (35, (.isub, []), 0), (36, (.putfield 176, [(11, 2)]), 61), (39, (.aload_n 0, []), 0), (40, (.getfield 176, [(11, 2)]), 59), (43, (.ireturn, []), 0)]
def mi_129 : rf_E1 := (mt_129, 17, cd_129)
def mt_130 : rf_Mt := (⟨"MemoryTransactionsModel", "text", "()I"⟩, prog_14_method_26_code, 1, (Option.some Jvm.ClassFile.FieldType.int))
def cd_130 : List (Nat × rf_I × Nat) := [(0, (.aload_n 0, []), 0), (1, (.iconst 0, []), 0), (2, (.putfield 173, [(11, 0)]), 58), (5, (.aload_n 0, []), 0), (6, (.getfield 310, [(11, 11)]), 62), (9, (.bipush 12, []), 0), (11, (.if_icmp .ne 5, [(0, 16)]), 0), (14, (.iconst (-1), []), 0), (15, (.ireturn, []), 0), (16, (.aload_n 0, []), 0), (17, (.iconst (-1), []), 0), (18, (.putfield 13, [(11, 10)]), 3), (21, (.aload_n 0, []), 0), (22, (.aload_n 0, []), 0), (23, (.getfield 310, [(11, 11)]), 62), (26, (.putfield 253, [(11, 28)]), 63), (29, (.aload_n 0, []), 0), (30, (.getfield 17, [(11, 12)]), 64), (33, (.aload_n 0, []), 0), (34, (.getfield 253, [(11, 28)]), 65), (37, (.iconst 0, []), 0), (38, (.iastore, []), 0), (39, (.aload_n 0, []), 0), (40, (.getfield 21, [(11, 13)]), 66), (43, (.aload_n 0, []), 0), (44, (.getfield 253, [(11, 28)]), 65), (47, (.iconst 0, []), 0), (48, (.iastore, []), 0), (49, (.aload_n 0, []), 0), (50, (.getfield 24, [(11, 14)]), 67), (53, (.aload_n 0, []), 0), (54, (.getfield 253, [(11, 28)]), 65), (57, (.iconst 0, []), 0), (58, (.iastore, []), 0), (59, (.aload_n 0, []), 0), (60, (.getfield 30, [(11, 16)]), 68), (63, (.aload_n 0, []), 0), (64, (.getfield 253, [(11, 28)]), 65), (67, (.iconst 0, []), 0), (68, (.iastore, []), 0), (69, (.aload_n 0, []), 0), (70, (.iconst 0, []), 0), (71, (.putfield 199, [(11, 3)]), 69), (74, (.aload_n 0, []), 0), (75, (.iconst 0, []), 0), (76, (.putfield 240, [(11, 9)]), 70), (79, (.aload_n 0, []), 0), (80, (.invokevirtual 313, [(0, 0), (11, 131)]), 71), (83, (.aload_n 0, []), 0), (84, (.iconst 0, []), 0), (85, (.putfield 176, [(11, 2)]), 61), (88, (.aload_n 0, []), 0), (89, (.getfield 240, [(11, 9)]), 72), (92, (.ifCond .eq 6, [(0, 98)]), 0), (95, (.bipush (-2), []), 0), (97, (.ireturn, []), 0), (98, (.aload_n 0, []), 0), (99, (.dup, []), 0), (100, (.getfield 310, [(11, 11)]), 62), (103, (.iconst 1, []), 0), (104, (.iadd, []), 0), (105, (.putfield 310, [(11, 11)]), 73), (108, (.aload_n 0, []), 0), (109, (.getfield 310, [(11, 11)]), 62), (112, (.iconst 1, []), 0), (113, (.isub, []), 0), (114, (.ireturn, []), 0)]
def mi_130 : rf_E1 := (mt_130, 17, cd_130)
def mt_131 : rf_Mt := (⟨"MemoryTransactionsModel", "readText", "()V"⟩, prog_14_method_19_code, 1, (Option.none : Option Jvm.ClassFile.FieldType))
def cd_131 : List (Nat × rf_I × Nat) := [(0, (.aload_n 0, []), 0), (1, (.iconst 0, []), 0), (2, (.putfield 283, [(11, 37)]), 74), (5, (.aload_n 0, []), 0), (6, (.getfield 74, [(11, 34)]), 75), (9, (.iconst 0, []), 0), (10, (.iconst (-1), []), 0), (11, (.iastore, []), 0), (12, (.aload_n 0, []), 0), (13, (.getfield 77, [(11, 35)]), 76), (16, (.iconst 0, []), 0), (17, (.iconst 0, []), 0), (18, (.iastore, []), 0), (19, (.aload_n 0, []), 0), (20, (.getfield 80, [(11, 36)]), 77), (23, (.iconst 0, []), 0), (24, (.iconst (-1), []), 0), (25, (.iastore, []), 0), (26, (.aload_n 0, []), 0), (27, (.getfield 27, [(11, 15)]), 78), (30, (.aload_n 0, []), 0), (31, (.getfield 253, [(11, 28)]), 65), (34, (.iconst (-1), []), 0), (35, (.iastore, []), 0), (36, (.aload_n 0, []), 0), (37, (.invokevirtual 250, [(0, 0), (11, 132)]), 79), (40, (.aload_n 0, []), 0), (41, (.getfield 240, [(11, 9)]), 72), (44, (.ifCond .ne 70, [(0, 114)]), 0), (47, (.aload_n 0, []), 0), (48, (.getfield 209, [(11, 4)]), 80), (51, (.ifCond .ne 10, [(0, 61)]), 0), (54, (.aload_n 0, []), 0), (55, (.getfield 283, [(11, 37)]), 81), (58, (.ifCond .eq 56, [(0, 114)]), 0), (61, (.aload_n 0, []), 0), (62, (.getfield 209, [(11, 4)]), 80), (65, (.ifCond .eq 19, [(0, 84)]), 0), (68, (.aload_n 0, []), 0), (69, (.bipush 125, []), 0), (71, (.invokevirtual 244, [(0, 1), (11, 138)]), 82), (74, (.ifCond .eq 17, [(0, 91)]), 0), (77, (.aload_n 0, []), 0), (78, (.getfield 283, [(11, 37)]), 81), (81, (.ifCond .ne 10, [(0, 91)]), 0), (84, (.aload_n 0, []), 0), (85, (.invokevirtual 247, [(0, 0), (11, 139)]), 83), (88, (.goto (-48), [(0, 40)]), 0), (91, (.aload_n 0, []), 0), (92, (.bipush 125, []), 0), (94, (.invokevirtual 244, [(0, 1), (11, 138)]), 82), (97, (.ifCond .eq 10, [(0, 107)]), 0), (100, (.aload_n 0, []), 0), (101, (.invokevirtual 286, [(0, 0), (11, 140)]), 84), (104, (.goto (-64), [(0, 40)]), 0), (107, (.aload_n 0, []), 0), (108, (.invokevirtual 289, [(0, 0), (11, 143)]), 85), (111, (.goto (-71), [(0, 40)]), 0), (114, (.return_, []), 0)]
def mi_131 : rf_E1 := (mt_131, 17, cd_131)
def mt_132 : rf_Mt := (⟨"MemoryTransactionsModel", "next", "()V"⟩, prog_14_method_8_code, 6, (Option.none : Option Jvm.ClassFile.FieldType))
def cd_132 : List (Nat × rf_I × Nat) := [(0, (.aload_n 0, []), 0), (1, (.aload_n 0, []), 0), (2, (.getfield 199, [(11, 3)]), 86), (5, (.invokevirtual 202, [(0, 1), (11, 133)]), 87), (8, (.bipush 32, []), 0), (10, (.if_icmp .eq 16, [(0, 26)]), 0), (13, (.aload_n 0, []), 0), (14, (.aload_n 0, []), 0), (15, (.getfield 199, [(11, 3)]), 86), (18, (.invokevirtual 202, [(0, 1), (11, 133)]), 87), (21, (.bipush 10, []), 0), (23, (.if_icmp .ne 16, [(0, 39)]), 0), (26, (.aload_n 0, []), 0), (27, (.dup, []), 0), (28, (.getfield 199, [(11, 3)]), 86), (31, (.iconst 1, []), 0), (32, (.iadd, []), 0), (33, (.putfield 199, [(11, 3)]), 69), (36, (.goto (-36), [(0, 0)]), 0), (39, (.aload_n 0, []), 0), (40, (.aload_n 0, []), 0), (41, (.getfield 199, [(11, 3)]), 86), (44, (.putfield 206, [(11, 5)]), 88), (47, (.aload_n 0, []), 0), (48, (.aload_n 0, []), 0), (49, (.getfield 199, [(11, 3)]), 86), (52, (.invokevirtual 202, [(0, 1), (11, 133)]), 87), (55, (.istore_n 1, []), 0), (56, (.iload_n 1, []), 0), (57, (.ifCond .ge 11, [(0, 68)]), 0), (60, (.aload_n 0, []), 0), (61, (.iconst 0, []), 0), (62, (.putfield 209, [(11, 4)]), 89), (65, (.goto 255, [(0, 320)]), 0), (68, (.iload_n 1, []), 0), (69, (.invokestatic 212, [(0, 1), (0, 134)]), 90), (72, (.ifCond .eq 116, [(0, 188)]), 0), (75, (.iconst 0, []), 0), (76, (.istore_n 2, []), 0), (77, (.lconst 0, []), 0), (78, (.lstore_n 3, []), 0), (79, (.aload_n 0, []), 0), (80, (.aload_n 0, []), 0), (81, (.getfield 199, [(11, 3)]), 86), (84, (.invokevirtual 202, [(0, 1), (11, 133)]), 87), (87, (.invokestatic 212, [(0, 1), (0, 134)]), 90), (90, (.ifCond .eq 44, [(0, 134)]), 0), (93, (.iload_n 2, []), 0), (94, (.bipush 7, []), 0), (96, (.if_icmp .ge 20, [(0, 116)]), 0), (99, (.lload_n 3, []), 0), (100, (.bipush 8, []), 0), (102, (.lshl, []), 0), (103, (.aload_n 0, []), 0), (104, (.aload_n 0, []), 0), (105, (.getfield 199, [(11, 3)]), 86), (108, (.invokevirtual 202, [(0, 1), (11, 133)]), 87), (111, (.i2l, []), 0), (112, (.lor, []), 0), (113, (.goto 4, [(0, 117)]), 0), (116, (.lload_n 3, []), 0), (117, (.lstore_n 3, []), 0), (118, (.iinc 2 1, []), 0), (121, (.aload_n 0, []), 0), (122, (.dup, []), 0), (123, (.getfield 199, [(11, 3)]), 86), (126, (.iconst 1, []), 0), (127, (.iadd, []), 0), (128, (.putfield 199, [(11, 3)]), 69), (131, (.goto (-52), [(0, 79)]), 0), (134, (.aload_n 0, []), 0), (135, (.iload_n 1, []), 0), (136, (.bipush 97, []), 0), (138, (.isub, []), 0), (139, (.putfield 216, [(11, 6)]), 91), (142, (.iload_n 2, []), 0), (143, (.bipush 7, []), 0), (145, (.if_icmp .ge 10, [(0, 155)]), 0), (148, (.lload_n 3, []), 0), (149, (.invokestatic 219, [(0, 1), (0, 135)]), 92), (152, (.goto 4, [(0, 156)]), 0), (155, (.iconst (-1), []), 0), (156, (.istore 5, []), 0), (158, (.aload_n 0, []), 0), (159, (.iload_n 2, []), 0), (160, (.iconst 1, []), 0), (161, (.if_icmp .ne 7, [(0, 168)]), 0), (164, (.iconst 2, []), 0), (165, (.goto 17, [(0, 182)]), 0), (168, (.iload 5, []), 0), (170, (.ifCond .ge 7, [(0, 177)]), 0), (173, (.iconst 1, []), 0), (174, (.goto 8, [(0, 182)]), 0), (177, (.bipush 10, []), 0), (179, (.iload 5, []), 0), (181, (.iadd, []), 0), (182, (.putfield 209, [(11, 4)]), 89), (185, (.goto 135, [(0, 320)]), 0), (188, (.iload_n 1, []), 0), (189, (.invokestatic 223, [(0, 1), (0, 136)]), 93), (192, (.ifCond .eq 97, [(0, 289)]), 0), (195, (.iconst 0, []), 0), (196, (.istore_n 2, []), 0), (197, (.aload_n 0, []), 0), (198, (.lconst 0, []), 0), (199, (.putfield 226, [(11, 7)]), 94), (202, (.aload_n 0, []), 0), (203, (.aload_n 0, []), 0), (204, (.getfield 199, [(11, 3)]), 86), (207, (.invokevirtual 202, [(0, 1), (11, 133)]), 87), (210, (.invokestatic 223, [(0, 1), (0, 136)]), 93), (213, (.ifCond .eq 58, [(0, 271)]), 0), (216, (.aload_n 0, []), 0), (217, (.iload_n 2, []), 0), (218, (.bipush 9, []), 0), (220, (.if_icmp .ge 28, [(0, 248)]), 0), (223, (.ldc2_w 230, [(1, 10)]), 95), (226, (.aload_n 0, []), 0), (227, (.getfield 226, [(11, 7)]), 96), (230, (.lmul, []), 0), (231, (.aload_n 0, []), 0), (232, (.aload_n 0, []), 0), (233, (.getfield 199, [(11, 3)]), 86), (236, (.invokevirtual 202, [(0, 1), (11, 133)]), 87), (239, (.i2l, []), 0), (240, (.ladd, []), 0), (241, (.ldc2_w 232, [(1, 48)]), 97), (244, (.lsub, []), 0), (245, (.goto 7, [(0, 252)]), 0), (248, (.aload_n 0, []), 0), (249, (.getfield 226, [(11, 7)]), 96), (252, (.putfield 226, [(11, 7)]), 94), (255, (.iinc 2 1, []), 0), (258, (.aload_n 0, []), 0), (259, (.dup, []), 0), (260, (.getfield 199, [(11, 3)]), 86), (263, (.iconst 1, []), 0), (264, (.iadd, []), 0), (265, (.putfield 199, [(11, 3)]), 69), (268, (.goto (-66), [(0, 202)]), 0), (271, (.aload_n 0, []), 0), (272, (.iload_n 2, []), 0), (273, (.bipush 9, []), 0), (275, (.if_icmp .le 7, [(0, 282)]), 0), (278, (.iconst 1, []), 0), (279, (.goto 4, [(0, 283)]), 0), (282, (.iconst 3, []), 0), (283, (.putfield 209, [(11, 4)]), 89), (286, (.goto 34, [(0, 320)]), 0), (289, (.aload_n 0, []), 0), (290, (.iload_n 1, []), 0), (291, (.putfield 234, [(11, 8)]), 98), (294, (.aload_n 0, []), 0), (295, (.iload_n 1, []), 0), (296, (.invokestatic 237, [(0, 1), (0, 137)]), 99), (299, (.ifCond .eq 7, [(0, 306)]), 0), (302, (.iconst 4, []), 0), (303, (.goto 4, [(0, 307)]), 0), (306, (.iconst 1, []), 0), (307, (.putfield 209, [(11, 4)]), 89), (310, (.aload_n 0, []), 0), (311, (.dup, []), 0), (312, (.getfield 199, [(11, 3)]), 86), (315, (.iconst 1, []), 0), (316, (.iadd, []), 0), (317, (.putfield 199, [(11, 3)]), 69), (320, (.return_, []), 0)]
def mi_132 : rf_E1 := (mt_132, 17, cd_132)
def mt_133 : rf_Mt := (⟨"MemoryTransactionsModel", "byteAt", "(I)I"⟩, prog_14_method_3_code, 2, (Option.some Jvm.ClassFile.FieldType.int))
def cd_133 : List (Nat × rf_I × Nat) := [(0, (.iload_n 1, []), 0), (1, (.aload_n 0, []), 0), (2, (.getfield 176, [(11, 2)]), 59), (5, (.if_icmp .ge 16, [(0, 21)]), 0), (8, (.aload_n 0, []), 0), (9, (.getfield 7, [(11, 1)]), 60), (12, (.iload_n 1, []), 0), (13, (.baload, []), 0), (14, (.sipush 255, []), 0), (17, (.iand, []), 0), (18, (.goto 4, [(0, 22)]), 0), (21, (.iconst (-1), []), 0), (22, (.ireturn, []), 0)]
def mi_133 : rf_E1 := (mt_133, 17, cd_133)
def mt_134 : rf_Mt := (⟨"MemoryTransactionsModel", "isSmall", "(I)Z"⟩, prog_14_method_4_code, 1, (Option.some Jvm.ClassFile.FieldType.boolean))
def cd_134 : List (Nat × rf_I × Nat) := [(0, (.iload_n 0, []), 0), (1, (.bipush 97, []), 0), (3, (.if_icmp .lt 13, [(0, 16)]), 0), (6, (.iload_n 0, []), 0), (7, (.bipush 122, []), 0), (9, (.if_icmp .gt 7, [(0, 16)]), 0), (12, (.iconst 1, []), 0), (13, (.goto 4, [(0, 17)]), 0), (16, (.iconst 0, []), 0), (17, (.ireturn, []), 0)]
def mi_134 : rf_E1 := (mt_134, 17, cd_134)
def mt_135 : rf_Mt := (⟨"MemoryTransactionsModel", "wordOf", "(J)I"⟩, prog_14_method_7_code, 2, (Option.some Jvm.ClassFile.FieldType.int))
def cd_135 : List (Nat × rf_I × Nat) := [(0, (.lload_n 0, []), 0), (1, (.ldc2_w 179, [(1, 26982)]), 100), (4, (.lcmp, []), 0), (5, (.ifCond .ne 5, [(0, 10)]), 0), (8, (.iconst 0, []), 0), (9, (.ireturn, []), 0), (10, (.lload_n 0, []), 0), (11, (.ldc2_w 181, [(1, 1701606245)]), 101), (14, (.lcmp, []), 0), (15, (.ifCond .ne 5, [(0, 20)]), 0), (18, (.iconst 1, []), 0), (19, (.ireturn, []), 0), (20, (.lload_n 0, []), 0), (21, (.ldc2_w 183, [(1, 512852847717)]), 102), (24, (.lcmp, []), 0), (25, (.ifCond .ne 5, [(0, 30)]), 0), (28, (.iconst 2, []), 0), (29, (.ireturn, []), 0), (30, (.lload_n 0, []), 0), (31, (.ldc2_w 185, [(1, 491328402041)]), 103), (34, (.lcmp, []), 0), (35, (.ifCond .ne 5, [(0, 40)]), 0), (38, (.iconst 3, []), 0), (39, (.ireturn, []), 0), (40, (.lload_n 0, []), 0), (41, (.ldc2_w 187, [(1, 499968536439)]), 104), (44, (.lcmp, []), 0), (45, (.ifCond .ne 5, [(0, 50)]), 0), (48, (.iconst 4, []), 0), (49, (.ireturn, []), 0), (50, (.lload_n 0, []), 0), (51, (.ldc2_w 189, [(1, 111503598970226)]), 105), (54, (.lcmp, []), 0), (55, (.ifCond .ne 5, [(0, 60)]), 0), (58, (.iconst 5, []), 0), (59, (.ireturn, []), 0), (60, (.lload_n 0, []), 0), (61, (.ldc2_w 191, [(1, 28530)]), 106), (64, (.lcmp, []), 0), (65, (.ifCond .ne 6, [(0, 71)]), 0), (68, (.bipush 6, []), 0), (70, (.ireturn, []), 0), (71, (.lload_n 0, []), 0), (72, (.ldc2_w 193, [(1, 7631481)]), 107), (75, (.lcmp, []), 0), (76, (.ifCond .ne 6, [(0, 82)]), 0), (79, (.bipush 7, []), 0), (81, (.ireturn, []), 0), (82, (.lload_n 0, []), 0), (83, (.ldc2_w 195, [(1, 426836779880)]), 108), (86, (.lcmp, []), 0), (87, (.ifCond .ne 6, [(0, 93)]), 0), (90, (.bipush 8, []), 0), (92, (.ireturn, []), 0), (93, (.lload_n 0, []), 0), (94, (.ldc2_w 197, [(1, 107118487239027)]), 109), (97, (.lcmp, []), 0), (98, (.ifCond .ne 6, [(0, 104)]), 0), (101, (.bipush 9, []), 0), (103, (.ireturn, []), 0), (104, (.iconst (-1), []), 0), (105, (.ireturn, []), 0)]
def mi_135 : rf_E1 := (mt_135, 17, cd_135)
def mt_136 : rf_Mt := (⟨"MemoryTransactionsModel", "isFigure", "(I)Z"⟩, prog_14_method_5_code, 1, (Option.some Jvm.ClassFile.FieldType.boolean))
def cd_136 : List (Nat × rf_I × Nat) := [(0, (.iload_n 0, []), 0), (1, (.bipush 48, []), 0), (3, (.if_icmp .lt 13, [(0, 16)]), 0), (6, (.iload_n 0, []), 0), (7, (.bipush 57, []), 0), (9, (.if_icmp .gt 7, [(0, 16)]), 0), (12, (.iconst 1, []), 0), (13, (.goto 4, [(0, 17)]), 0), (16, (.iconst 0, []), 0), (17, (.ireturn, []), 0)]
def mi_136 : rf_E1 := (mt_136, 17, cd_136)
def mt_137 : rf_Mt := (⟨"MemoryTransactionsModel", "isSignByte", "(I)Z"⟩, prog_14_method_6_code, 1, (Option.some Jvm.ClassFile.FieldType.boolean))
def cd_137 : List (Nat × rf_I × Nat) := [(0, (.iload_n 0, []), 0), (1, (.lookupswitch 117 #[(35, 115), (37, 115), (40, 115), (41, 115), (42, 115), (43, 115), (45, 115), (47, 115), (59, 115), (60, 115), (61, 115), (123, 115), (125, 115)], [(0, 118), (35, 116), (37, 116), (40, 116), (41, 116), (42, 116), (43, 116), (45, 116), (47, 116), (59, 116), (60, 116), (61, 116), (123, 116), (125, 116)]), 0), (116, (.iconst 1, []), 0), (117, (.ireturn, []), 0), (118, (.iconst 0, []), 0), (119, (.ireturn, []), 0)]
def mi_137 : rf_E1 := (mt_137, 17, cd_137)
def mt_138 : rf_Mt := (⟨"MemoryTransactionsModel", "isSign", "(I)Z"⟩, prog_14_method_10_code, 2, (Option.some Jvm.ClassFile.FieldType.boolean))
def cd_138 : List (Nat × rf_I × Nat) := [(0, (.aload_n 0, []), 0), (1, (.getfield 209, [(11, 4)]), 80), (4, (.iconst 4, []), 0), (5, (.if_icmp .ne 15, [(0, 20)]), 0), (8, (.aload_n 0, []), 0), (9, (.getfield 234, [(11, 8)]), 110), (12, (.iload_n 1, []), 0), (13, (.if_icmp .ne 7, [(0, 20)]), 0), (16, (.iconst 1, []), 0), (17, (.goto 4, [(0, 21)]), 0), (20, (.iconst 0, []), 0), (21, (.ireturn, []), 0)]
def mi_138 : rf_E1 := (mt_138, 17, cd_138)
def mt_139 : rf_Mt := (⟨"MemoryTransactionsModel", "misplaced", "()V"⟩, prog_14_method_9_code, 1, (Option.none : Option Jvm.ClassFile.FieldType))
def cd_139 : List (Nat × rf_I × Nat) := [(0, (.aload_n 0, []), 0), (1, (.getfield 240, [(11, 9)]), 72), (4, (.ifCond .ne 16, [(0, 20)]), 0), (7, (.aload_n 0, []), 0), (8, (.iconst 1, []), 0), (9, (.putfield 240, [(11, 9)]), 70), (12, (.aload_n 0, []), 0), (13, (.aload_n 0, []), 0), (14, (.getfield 206, [(11, 5)]), 111), (17, (.putfield 13, [(11, 10)]), 3), (20, (.return_, []), 0)]
def mi_139 : rf_E1 := (mt_139, 17, cd_139)
def mt_140 : rf_Mt := (⟨"MemoryTransactionsModel", "closeBody", "()V"⟩, prog_14_method_20_code, 3, (Option.none : Option Jvm.ClassFile.FieldType))
def cd_140 : List (Nat × rf_I × Nat) := [(0, (.aload_n 0, []), 0), (1, (.getfield 74, [(11, 34)]), 75), (4, (.aload_n 0, []), 0), (5, (.getfield 283, [(11, 37)]), 81), (8, (.iaload, []), 0), (9, (.istore_n 1, []), 0), (10, (.aload_n 0, []), 0), (11, (.getfield 77, [(11, 35)]), 76), (14, (.aload_n 0, []), 0), (15, (.getfield 283, [(11, 37)]), 81), (18, (.iaload, []), 0), (19, (.istore_n 2, []), 0), (20, (.aload_n 0, []), 0), (21, (.dup, []), 0), (22, (.getfield 283, [(11, 37)]), 81), (25, (.iconst 1, []), 0), (26, (.isub, []), 0), (27, (.putfield 283, [(11, 37)]), 74), (30, (.aload_n 0, []), 0), (31, (.invokevirtual 250, [(0, 0), (11, 132)]), 79), (34, (.iload_n 2, []), 0), (35, (.iconst 1, []), 0), (36, (.if_icmp .eq 13, [(0, 49)]), 0), (39, (.aload_n 0, []), 0), (40, (.getfield 33, [(11, 17)]), 112), (43, (.iload_n 1, []), 0), (44, (.iaload, []), 0), (45, (.iconst 2, []), 0), (46, (.if_icmp .ne 4, [(0, 50)]), 0), (49, (.return_, []), 0), (50, (.aload_n 0, []), 0), (51, (.getfield 33, [(11, 17)]), 112), (54, (.iload_n 1, []), 0), (55, (.iaload, []), 0), (56, (.ifCond .ne 23, [(0, 79)]), 0), (59, (.aload_n 0, []), 0), (60, (.getfield 209, [(11, 4)]), 80), (63, (.bipush 11, []), 0), (65, (.if_icmp .ne 13, [(0, 78)]), 0), (68, (.aload_n 0, []), 0), (69, (.invokevirtual 250, [(0, 0), (11, 132)]), 79), (72, (.aload_n 0, []), 0), (73, (.iload_n 1, []), 0), (74, (.iconst 1, []), 0), (75, (.invokevirtual 292, [(0, 2), (11, 141)]), 113), (78, (.return_, []), 0), (79, (.aload_n 0, []), 0), (80, (.aload_n 0, []), 0), (81, (.getfield 33, [(11, 17)]), 112), (84, (.iload_n 1, []), 0), (85, (.iaload, []), 0), (86, (.iconst 5, []), 0), (87, (.if_icmp .ne 8, [(0, 95)]), 0), (90, (.bipush 6, []), 0), (92, (.goto 5, [(0, 97)]), 0), (95, (.bipush 8, []), 0), (97, (.invokevirtual 296, [(0, 1), (11, 142)]), 114), (100, (.aload_n 0, []), 0), (101, (.getfield 33, [(11, 17)]), 112), (104, (.iload_n 1, []), 0), (105, (.iaload, []), 0), (106, (.bipush 7, []), 0), (108, (.if_icmp .ne 46, [(0, 154)]), 0), (111, (.aload_n 0, []), 0), (112, (.getfield 240, [(11, 9)]), 72), (115, (.ifCond .ne 39, [(0, 154)]), 0), (118, (.aload_n 0, []), 0), (119, (.getfield 209, [(11, 4)]), 80), (122, (.iconst 2, []), 0), (123, (.if_icmp .ne 12, [(0, 135)]), 0), (126, (.aload_n 0, []), 0), (127, (.getfield 216, [(11, 6)]), 115), (130, (.bipush 16, []), 0), (132, (.if_icmp .ge 8, [(0, 140)]), 0), (135, (.aload_n 0, []), 0), (136, (.invokevirtual 247, [(0, 0), (11, 139)]), 83), (139, (.return_, []), 0), (140, (.aload_n 0, []), 0), (141, (.getfield 54, [(11, 24)]), 116), (144, (.iload_n 1, []), 0), (145, (.aload_n 0, []), 0), (146, (.getfield 216, [(11, 6)]), 115), (149, (.iastore, []), 0), (150, (.aload_n 0, []), 0), (151, (.invokevirtual 250, [(0, 0), (11, 132)]), 79), (154, (.aload_n 0, []), 0), (155, (.getfield 240, [(11, 9)]), 72), (158, (.ifCond .ne 9, [(0, 167)]), 0), (161, (.aload_n 0, []), 0), (162, (.iload_n 1, []), 0), (163, (.iconst 1, []), 0), (164, (.invokevirtual 292, [(0, 2), (11, 141)]), 113), (167, (.return_, []), 0)]
def mi_140 : rf_E1 := (mt_140, 17, cd_140)
def mt_141 : rf_Mt := (⟨"MemoryTransactionsModel", "openBody", "(II)V"⟩, prog_14_method_18_code, 3, (Option.none : Option Jvm.ClassFile.FieldType))
def cd_141 : List (Nat × rf_I × Nat) := [(0, (.aload_n 0, []), 0), (1, (.bipush 123, []), 0), (3, (.invokevirtual 244, [(0, 1), (11, 138)]), 82), (6, (.ifCond .eq 12, [(0, 18)]), 0), (9, (.aload_n 0, []), 0), (10, (.getfield 283, [(11, 37)]), 81), (13, (.bipush 8, []), 0), (15, (.if_icmp .ne 8, [(0, 23)]), 0), (18, (.aload_n 0, []), 0), (19, (.invokevirtual 247, [(0, 0), (11, 139)]), 83), (22, (.return_, []), 0), (23, (.aload_n 0, []), 0), (24, (.dup, []), 0), (25, (.getfield 283, [(11, 37)]), 81), (28, (.iconst 1, []), 0), (29, (.iadd, []), 0), (30, (.putfield 283, [(11, 37)]), 74), (33, (.aload_n 0, []), 0), (34, (.getfield 24, [(11, 14)]), 67), (37, (.aload_n 0, []), 0), (38, (.getfield 253, [(11, 28)]), 65), (41, (.aload_n 0, []), 0), (42, (.getfield 283, [(11, 37)]), 81), (45, (.aload_n 0, []), 0), (46, (.getfield 24, [(11, 14)]), 67), (49, (.aload_n 0, []), 0), (50, (.getfield 253, [(11, 28)]), 65), (53, (.iaload, []), 0), (54, (.if_icmp .le 10, [(0, 64)]), 0), (57, (.aload_n 0, []), 0), (58, (.getfield 283, [(11, 37)]), 81), (61, (.goto 12, [(0, 73)]), 0), (64, (.aload_n 0, []), 0), (65, (.getfield 24, [(11, 14)]), 67), (68, (.aload_n 0, []), 0), (69, (.getfield 253, [(11, 28)]), 65), (72, (.iaload, []), 0), (73, (.iastore, []), 0), (74, (.aload_n 0, []), 0), (75, (.getfield 74, [(11, 34)]), 75), (78, (.aload_n 0, []), 0), (79, (.getfield 283, [(11, 37)]), 81), (82, (.iload_n 1, []), 0), (83, (.iastore, []), 0), (84, (.aload_n 0, []), 0), (85, (.getfield 77, [(11, 35)]), 76), (88, (.aload_n 0, []), 0), (89, (.getfield 283, [(11, 37)]), 81), (92, (.iload_n 2, []), 0), (93, (.iastore, []), 0), (94, (.aload_n 0, []), 0), (95, (.getfield 80, [(11, 36)]), 77), (98, (.aload_n 0, []), 0), (99, (.getfield 283, [(11, 37)]), 81), (102, (.iconst (-1), []), 0), (103, (.iastore, []), 0), (104, (.aload_n 0, []), 0), (105, (.invokevirtual 250, [(0, 0), (11, 132)]), 79), (108, (.return_, []), 0)]
def mi_141 : rf_E1 := (mt_141, 17, cd_141)
def mt_142 : rf_Mt := (⟨"MemoryTransactionsModel", "takeWord", "(I)V"⟩, prog_14_method_21_code, 2, (Option.none : Option Jvm.ClassFile.FieldType))
def cd_142 : List (Nat × rf_I × Nat) := [(0, (.aload_n 0, []), 0), (1, (.getfield 209, [(11, 4)]), 80), (4, (.bipush 10, []), 0), (6, (.iload_n 1, []), 0), (7, (.iadd, []), 0), (8, (.if_icmp .eq 7, [(0, 15)]), 0), (11, (.aload_n 0, []), 0), (12, (.invokevirtual 247, [(0, 0), (11, 139)]), 83), (15, (.aload_n 0, []), 0), (16, (.getfield 240, [(11, 9)]), 72), (19, (.ifCond .ne 7, [(0, 26)]), 0), (22, (.aload_n 0, []), 0), (23, (.invokevirtual 250, [(0, 0), (11, 132)]), 79), (26, (.return_, []), 0)]
def mi_142 : rf_E1 := (mt_142, 17, cd_142)
def mt_143 : rf_Mt := (⟨"MemoryTransactionsModel", "readStatement", "()V"⟩, prog_14_method_23_code, 4, (Option.none : Option Jvm.ClassFile.FieldType))
def cd_143 : List (Nat × rf_I × Nat) := [(0, (.aload_n 0, []), 0), (1, (.getfield 209, [(11, 4)]), 80), (4, (.bipush 10, []), 0), (6, (.isub, []), 0), (7, (.istore_n 1, []), 0), (8, (.aload_n 0, []), 0), (9, (.getfield 209, [(11, 4)]), 80), (12, (.iconst 2, []), 0), (13, (.if_icmp .eq 39, [(0, 52)]), 0), (16, (.iload_n 1, []), 0), (17, (.ifCond .eq 35, [(0, 52)]), 0), (20, (.iload_n 1, []), 0), (21, (.iconst 2, []), 0), (22, (.if_icmp .eq 30, [(0, 52)]), 0), (25, (.iload_n 1, []), 0), (26, (.iconst 3, []), 0), (27, (.if_icmp .eq 25, [(0, 52)]), 0), (30, (.iload_n 1, []), 0), (31, (.iconst 4, []), 0), (32, (.if_icmp .eq 20, [(0, 52)]), 0), (35, (.iload_n 1, []), 0), (36, (.iconst 5, []), 0), (37, (.if_icmp .eq 15, [(0, 52)]), 0), (40, (.iload_n 1, []), 0), (41, (.bipush 7, []), 0), (43, (.if_icmp .eq 9, [(0, 52)]), 0), (46, (.iload_n 1, []), 0), (47, (.bipush 9, []), 0), (49, (.if_icmp .ne 7, [(0, 56)]), 0), (52, (.iconst 1, []), 0), (53, (.goto 4, [(0, 57)]), 0), (56, (.iconst 0, []), 0), (57, (.istore_n 2, []), 0), (58, (.iload_n 2, []), 0), (59, (.ifCond .eq 17, [(0, 76)]), 0), (62, (.aload_n 0, []), 0), (63, (.getfield 17, [(11, 12)]), 64), (66, (.aload_n 0, []), 0), (67, (.getfield 253, [(11, 28)]), 65), (70, (.iaload, []), 0), (71, (.bipush 40, []), 0), (73, (.if_icmp .ne 8, [(0, 81)]), 0), (76, (.aload_n 0, []), 0), (77, (.invokevirtual 247, [(0, 0), (11, 139)]), 83), (80, (.return_, []), 0), (81, (.aload_n 0, []), 0), (82, (.invokevirtual 299, [(0, 0), (11, 144)]), 117), (85, (.istore_n 3, []), 0), (86, (.aload_n 0, []), 0), (87, (.getfield 33, [(11, 17)]), 112), (90, (.iload_n 3, []), 0), (91, (.aload_n 0, []), 0), (92, (.getfield 209, [(11, 4)]), 80), (95, (.iconst 2, []), 0), (96, (.if_icmp .ne 8, [(0, 104)]), 0), (99, (.bipush 20, []), 0), (101, (.goto 4, [(0, 105)]), 0), (104, (.iload_n 1, []), 0), (105, (.iastore, []), 0), (106, (.aload_n 0, []), 0), (107, (.getfield 54, [(11, 24)]), 116), (110, (.iload_n 3, []), 0), (111, (.aload_n 0, []), 0), (112, (.getfield 209, [(11, 4)]), 80), (115, (.iconst 2, []), 0), (116, (.if_icmp .ne 10, [(0, 126)]), 0), (119, (.aload_n 0, []), 0), (120, (.getfield 216, [(11, 6)]), 115), (123, (.goto 4, [(0, 127)]), 0), (126, (.iconst (-1), []), 0), (127, (.iastore, []), 0), (128, (.aload_n 0, []), 0), (129, (.invokevirtual 250, [(0, 0), (11, 132)]), 79), (132, (.aload_n 0, []), 0), (133, (.getfield 33, [(11, 17)]), 112), (136, (.iload_n 3, []), 0), (137, (.iaload, []), 0), (138, (.bipush 20, []), 0), (140, (.if_icmp .ne 12, [(0, 152)]), 0), (143, (.aload_n 0, []), 0), (144, (.bipush 61, []), 0), (146, (.invokevirtual 303, [(0, 1), (11, 145)]), 118), (149, (.goto 18, [(0, 167)]), 0), (152, (.iload_n 1, []), 0), (153, (.ifCond .eq 8, [(0, 161)]), 0), (156, (.iload_n 1, []), 0), (157, (.iconst 2, []), 0), (158, (.if_icmp .ne 9, [(0, 167)]), 0), (161, (.aload_n 0, []), 0), (162, (.bipush 40, []), 0), (164, (.invokevirtual 303, [(0, 1), (11, 145)]), 118), (167, (.aload_n 0, []), 0), (168, (.getfield 240, [(11, 9)]), 72), (171, (.ifCond .ne 60, [(0, 231)]), 0), (174, (.aload_n 0, []), 0), (175, (.getfield 33, [(11, 17)]), 112), (178, (.iload_n 3, []), 0), (179, (.iaload, []), 0), (180, (.iconst 3, []), 0), (181, (.if_icmp .eq 50, [(0, 231)]), 0), (184, (.aload_n 0, []), 0), (185, (.getfield 33, [(11, 17)]), 112), (188, (.iload_n 3, []), 0), (189, (.iaload, []), 0), (190, (.iconst 5, []), 0), (191, (.if_icmp .eq 40, [(0, 231)]), 0), (194, (.aload_n 0, []), 0), (195, (.getfield 33, [(11, 17)]), 112), (198, (.iload_n 3, []), 0), (199, (.iaload, []), 0), (200, (.bipush 7, []), 0), (202, (.if_icmp .eq 29, [(0, 231)]), 0), (205, (.aload_n 0, []), 0), (206, (.getfield 45, [(11, 21)]), 119), (209, (.iload_n 3, []), 0), (210, (.aload_n 0, []), 0), (211, (.aload_n 0, []), 0), (212, (.getfield 33, [(11, 17)]), 112), (215, (.iload_n 3, []), 0), (216, (.iaload, []), 0), (217, (.bipush 9, []), 0), (219, (.if_icmp .ne 7, [(0, 226)]), 0), (222, (.iconst 1, []), 0), (223, (.goto 4, [(0, 227)]), 0), (226, (.iconst 0, []), 0), (227, (.invokevirtual 306, [(0, 1), (11, 146)]), 120), (230, (.iastore, []), 0), (231, (.aload_n 0, []), 0), (232, (.getfield 33, [(11, 17)]), 112), (235, (.iload_n 3, []), 0), (236, (.iaload, []), 0), (237, (.ifCond .eq 13, [(0, 250)]), 0), (240, (.aload_n 0, []), 0), (241, (.getfield 33, [(11, 17)]), 112), (244, (.iload_n 3, []), 0), (245, (.iaload, []), 0), (246, (.iconst 2, []), 0), (247, (.if_icmp .ne 9, [(0, 256)]), 0), (250, (.aload_n 0, []), 0), (251, (.bipush 41, []), 0), (253, (.invokevirtual 303, [(0, 1), (11, 145)]), 118), (256, (.aload_n 0, []), 0), (257, (.getfield 240, [(11, 9)]), 72), (260, (.ifCond .eq 4, [(0, 264)]), 0), (263, (.return_, []), 0), (264, (.aload_n 0, []), 0), (265, (.getfield 33, [(11, 17)]), 112), (268, (.iload_n 3, []), 0), (269, (.iaload, []), 0), (270, (.ifCond .eq 34, [(0, 304)]), 0), (273, (.aload_n 0, []), 0), (274, (.getfield 33, [(11, 17)]), 112), (277, (.iload_n 3, []), 0), (278, (.iaload, []), 0), (279, (.iconst 2, []), 0), (280, (.if_icmp .eq 24, [(0, 304)]), 0), (283, (.aload_n 0, []), 0), (284, (.getfield 33, [(11, 17)]), 112), (287, (.iload_n 3, []), 0), (288, (.iaload, []), 0), (289, (.iconst 5, []), 0), (290, (.if_icmp .eq 14, [(0, 304)]), 0), (293, (.aload_n 0, []), 0), (294, (.getfield 33, [(11, 17)]), 112), (297, (.iload_n 3, []), 0), (298, (.iaload, []), 0), (299, (.bipush 7, []), 0), (301, (.if_icmp .ne 12, [(0, 313)]), 0), (304, (.aload_n 0, []), 0), (305, (.iload_n 3, []), 0), (306, (.iconst 0, []), 0), (307, (.invokevirtual 292, [(0, 2), (11, 141)]), 113), (310, (.goto 9, [(0, 319)]), 0), (313, (.aload_n 0, []), 0), (314, (.bipush 59, []), 0), (316, (.invokevirtual 303, [(0, 1), (11, 145)]), 118), (319, (.return_, []), 0)]
def mi_143 : rf_E1 := (mt_143, 17, cd_143)
def mt_144 : rf_Mt := (⟨"MemoryTransactionsModel", "newStatement", "()I"⟩, prog_14_method_22_code, 4, (Option.some Jvm.ClassFile.FieldType.int))
def cd_144 : List (Nat × rf_I × Nat) := [(0, (.bipush 40, []), 0), (2, (.aload_n 0, []), 0), (3, (.getfield 253, [(11, 28)]), 65), (6, (.imul, []), 0), (7, (.aload_n 0, []), 0), (8, (.getfield 17, [(11, 12)]), 64), (11, (.aload_n 0, []), 0), (12, (.getfield 253, [(11, 28)]), 65), (15, (.iaload, []), 0), (16, (.iadd, []), 0), (17, (.istore_n 1, []), 0), (18, (.aload_n 0, []), 0), (19, (.getfield 17, [(11, 12)]), 64), (22, (.aload_n 0, []), 0), (23, (.getfield 253, [(11, 28)]), 65), (26, (.dup2, []), 0), (27, (.iaload, []), 0), (28, (.iconst 1, []), 0), (29, (.iadd, []), 0), (30, (.iastore, []), 0), (31, (.aload_n 0, []), 0), (32, (.getfield 36, [(11, 18)]), 121), (35, (.iload_n 1, []), 0), (36, (.iconst (-1), []), 0), (37, (.iastore, []), 0), (38, (.aload_n 0, []), 0), (39, (.getfield 39, [(11, 19)]), 122), (42, (.iload_n 1, []), 0), (43, (.aload_n 0, []), 0), (44, (.getfield 74, [(11, 34)]), 75), (47, (.aload_n 0, []), 0), (48, (.getfield 283, [(11, 37)]), 81), (51, (.iaload, []), 0), (52, (.iastore, []), 0), (53, (.aload_n 0, []), 0), (54, (.getfield 42, [(11, 20)]), 123), (57, (.iload_n 1, []), 0), (58, (.aload_n 0, []), 0), (59, (.getfield 77, [(11, 35)]), 76), (62, (.aload_n 0, []), 0), (63, (.getfield 283, [(11, 37)]), 81), (66, (.iaload, []), 0), (67, (.iastore, []), 0), (68, (.aload_n 0, []), 0), (69, (.getfield 45, [(11, 21)]), 119), (72, (.iload_n 1, []), 0), (73, (.iconst (-1), []), 0), (74, (.iastore, []), 0), (75, (.aload_n 0, []), 0), (76, (.getfield 48, [(11, 22)]), 124), (79, (.iload_n 1, []), 0), (80, (.iconst (-1), []), 0), (81, (.iastore, []), 0), (82, (.aload_n 0, []), 0), (83, (.getfield 51, [(11, 23)]), 125), (86, (.iload_n 1, []), 0), (87, (.iconst (-1), []), 0), (88, (.iastore, []), 0), (89, (.aload_n 0, []), 0), (90, (.getfield 54, [(11, 24)]), 116), (93, (.iload_n 1, []), 0), (94, (.iconst (-1), []), 0), (95, (.iastore, []), 0), (96, (.aload_n 0, []), 0), (97, (.getfield 80, [(11, 36)]), 77), (100, (.aload_n 0, []), 0), (101, (.getfield 283, [(11, 37)]), 81), (104, (.iaload, []), 0), (105, (.istore_n 2, []), 0), (106, (.aload_n 0, []), 0), (107, (.getfield 74, [(11, 34)]), 75), (110, (.aload_n 0, []), 0), (111, (.getfield 283, [(11, 37)]), 81), (114, (.iaload, []), 0), (115, (.istore_n 3, []), 0), (116, (.iload_n 2, []), 0), (117, (.ifCond .lt 13, [(0, 130)]), 0), (120, (.aload_n 0, []), 0), (121, (.getfield 36, [(11, 18)]), 121), (124, (.iload_n 2, []), 0), (125, (.iload_n 1, []), 0), (126, (.iastore, []), 0), (127, (.goto 49, [(0, 176)]), 0), (130, (.iload_n 3, []), 0), (131, (.ifCond .ge 16, [(0, 147)]), 0), (134, (.aload_n 0, []), 0), (135, (.getfield 27, [(11, 15)]), 78), (138, (.aload_n 0, []), 0), (139, (.getfield 253, [(11, 28)]), 65), (142, (.iload_n 1, []), 0), (143, (.iastore, []), 0), (144, (.goto 32, [(0, 176)]), 0), (147, (.aload_n 0, []), 0), (148, (.getfield 77, [(11, 35)]), 76), (151, (.aload_n 0, []), 0), (152, (.getfield 283, [(11, 37)]), 81), (155, (.iaload, []), 0), (156, (.ifCond .ne 13, [(0, 169)]), 0), (159, (.aload_n 0, []), 0), (160, (.getfield 48, [(11, 22)]), 124), (163, (.iload_n 3, []), 0), (164, (.iload_n 1, []), 0), (165, (.iastore, []), 0), (166, (.goto 10, [(0, 176)]), 0), (169, (.aload_n 0, []), 0), (170, (.getfield 51, [(11, 23)]), 125), (173, (.iload_n 3, []), 0), (174, (.iload_n 1, []), 0), (175, (.iastore, []), 0), (176, (.aload_n 0, []), 0), (177, (.getfield 80, [(11, 36)]), 77), (180, (.aload_n 0, []), 0), (181, (.getfield 283, [(11, 37)]), 81), (184, (.iload_n 1, []), 0), (185, (.iastore, []), 0), (186, (.iload_n 1, []), 0), (187, (.ireturn, []), 0)]
def mi_144 : rf_E1 := (mt_144, 17, cd_144)
def mt_145 : rf_Mt := (⟨"MemoryTransactionsModel", "take", "(I)V"⟩, prog_14_method_11_code, 2, (Option.none : Option Jvm.ClassFile.FieldType))
def cd_145 : List (Nat × rf_I × Nat) := [(0, (.aload_n 0, []), 0), (1, (.iload_n 1, []), 0), (2, (.invokevirtual 244, [(0, 1), (11, 138)]), 82), (5, (.ifCond .ne 7, [(0, 12)]), 0), (8, (.aload_n 0, []), 0), (9, (.invokevirtual 247, [(0, 0), (11, 139)]), 83), (12, (.aload_n 0, []), 0), (13, (.getfield 240, [(11, 9)]), 72), (16, (.ifCond .ne 7, [(0, 23)]), 0), (19, (.aload_n 0, []), 0), (20, (.invokevirtual 250, [(0, 0), (11, 132)]), 79), (23, (.return_, []), 0)]
def mi_145 : rf_E1 := (mt_145, 17, cd_145)
def mt_146 : rf_Mt := (⟨"MemoryTransactionsModel", "exp", "(Z)I"⟩, prog_14_method_16_code, 6, (Option.some Jvm.ClassFile.FieldType.int))
def cd_146 : List (Nat × rf_I × Nat) := [(0, (.sipush 200, []), 0), (3, (.aload_n 0, []), 0), (4, (.getfield 253, [(11, 28)]), 65), (7, (.imul, []), 0), (8, (.aload_n 0, []), 0), (9, (.getfield 30, [(11, 16)]), 68), (12, (.aload_n 0, []), 0), (13, (.getfield 253, [(11, 28)]), 65), (16, (.iaload, []), 0), (17, (.iadd, []), 0), (18, (.istore_n 2, []), 0), (19, (.aload_n 0, []), 0), (20, (.iconst 0, []), 0), (21, (.putfield 256, [(11, 30)]), 126), (24, (.aload_n 0, []), 0), (25, (.iconst 0, []), 0), (26, (.putfield 266, [(11, 31)]), 127), (29, (.aload_n 0, []), 0), (30, (.iconst 0, []), 0), (31, (.putfield 269, [(11, 33)]), 128), (34, (.aload_n 0, []), 0), (35, (.getfield 70, [(11, 32)]), 129), (38, (.iconst 0, []), 0), (39, (.iconst 0, []), 0), (40, (.bastore, []), 0), (41, (.iconst 1, []), 0), (42, (.istore_n 3, []), 0), (43, (.iconst 1, []), 0), (44, (.istore 4, []), 0), (46, (.iload 4, []), 0), (48, (.ifCond .eq 230, [(0, 278)]), 0), (51, (.aload_n 0, []), 0), (52, (.getfield 240, [(11, 9)]), 72), (55, (.ifCond .ne 223, [(0, 278)]), 0), (58, (.iload_n 3, []), 0), (59, (.ifCond .eq 12, [(0, 71)]), 0), (62, (.aload_n 0, []), 0), (63, (.iload_n 1, []), 0), (64, (.invokevirtual 272, [(0, 1), (11, 147)]), 130), (67, (.istore_n 3, []), 0), (68, (.goto (-22), [(0, 46)]), 0), (71, (.aload_n 0, []), 0), (72, (.bipush 41, []), 0), (74, (.invokevirtual 244, [(0, 1), (11, 138)]), 82), (77, (.ifCond .eq 56, [(0, 133)]), 0), (80, (.aload_n 0, []), 0), (81, (.getfield 269, [(11, 33)]), 131), (84, (.ifCond .le 49, [(0, 133)]), 0), (87, (.aload_n 0, []), 0), (88, (.iconst 1, []), 0), (89, (.invokevirtual 276, [(0, 1), (11, 150)]), 132), (92, (.aload_n 0, []), 0), (93, (.dup, []), 0), (94, (.getfield 256, [(11, 30)]), 133), (97, (.iconst 1, []), 0), (98, (.isub, []), 0), (99, (.putfield 256, [(11, 30)]), 126), (102, (.aload_n 0, []), 0), (103, (.dup, []), 0), (104, (.getfield 269, [(11, 33)]), 131), (107, (.iconst 1, []), 0), (108, (.isub, []), 0), (109, (.putfield 269, [(11, 33)]), 128), (112, (.aload_n 0, []), 0), (113, (.dup, []), 0), (114, (.getfield 266, [(11, 31)]), 134), (117, (.iconst 1, []), 0), (118, (.isub, []), 0), (119, (.putfield 266, [(11, 31)]), 127), (122, (.aload_n 0, []), 0), (123, (.invokevirtual 250, [(0, 0), (11, 132)]), 79), (126, (.aload_n 0, []), 0), (127, (.invokevirtual 280, [(0, 0), (11, 149)]), 135), (130, (.goto (-84), [(0, 46)]), 0), (133, (.aload_n 0, []), 0), (134, (.getfield 209, [(11, 4)]), 80), (137, (.iconst 4, []), 0), (138, (.if_icmp .ne 14, [(0, 152)]), 0), (141, (.aload_n 0, []), 0), (142, (.getfield 234, [(11, 8)]), 110), (145, (.invokestatic 259, [(0, 1), (0, 151)]), 136), (148, (.iconst 1, []), 0), (149, (.if_icmp .gt 34, [(0, 183)]), 0), (152, (.aload_n 0, []), 0), (153, (.getfield 209, [(11, 4)]), 80), (156, (.iconst 4, []), 0), (157, (.if_icmp .ne 115, [(0, 272)]), 0), (160, (.aload_n 0, []), 0), (161, (.getfield 234, [(11, 8)]), 110), (164, (.invokestatic 259, [(0, 1), (0, 151)]), 136), (167, (.iconst 1, []), 0), (168, (.if_icmp .ne 104, [(0, 272)]), 0), (171, (.aload_n 0, []), 0), (172, (.getfield 70, [(11, 32)]), 129), (175, (.aload_n 0, []), 0), (176, (.getfield 269, [(11, 33)]), 131), (179, (.baload, []), 0), (180, (.ifCond .ne 92, [(0, 272)]), 0), (183, (.aload_n 0, []), 0), (184, (.getfield 234, [(11, 8)]), 110), (187, (.invokestatic 259, [(0, 1), (0, 151)]), 136), (190, (.istore 5, []), 0), (192, (.aload_n 0, []), 0), (193, (.getfield 70, [(11, 32)]), 129), (196, (.aload_n 0, []), 0), (197, (.getfield 269, [(11, 33)]), 131), (200, (.aload_n 0, []), 0), (201, (.getfield 70, [(11, 32)]), 129), (204, (.aload_n 0, []), 0), (205, (.getfield 269, [(11, 33)]), 131), (208, (.baload, []), 0), (209, (.ifCond .ne 9, [(0, 218)]), 0), (212, (.iload 5, []), 0), (214, (.iconst 1, []), 0), (215, (.if_icmp .ne 7, [(0, 222)]), 0), (218, (.iconst 1, []), 0), (219, (.goto 4, [(0, 223)]), 0), (222, (.iconst 0, []), 0), (223, (.bastore, []), 0), (224, (.aload_n 0, []), 0), (225, (.iload 5, []), 0), (227, (.iconst 1, []), 0), (228, (.if_icmp .ne 7, [(0, 235)]), 0), (231, (.iconst 2, []), 0), (232, (.goto 5, [(0, 237)]), 0), (235, (.iload 5, []), 0), (237, (.invokevirtual 276, [(0, 1), (11, 150)]), 132), (240, (.aload_n 0, []), 0), (241, (.getfield 67, [(11, 29)]), 137), (244, (.aload_n 0, []), 0), (245, (.getfield 256, [(11, 30)]), 133), (248, (.aload_n 0, []), 0), (249, (.getfield 234, [(11, 8)]), 110), (252, (.iastore, []), 0), (253, (.aload_n 0, []), 0), (254, (.dup, []), 0), (255, (.getfield 256, [(11, 30)]), 133), (258, (.iconst 1, []), 0), (259, (.iadd, []), 0), (260, (.putfield 256, [(11, 30)]), 126), (263, (.aload_n 0, []), 0), (264, (.invokevirtual 250, [(0, 0), (11, 132)]), 79), (267, (.iconst 1, []), 0), (268, (.istore_n 3, []), 0), (269, (.goto (-223), [(0, 46)]), 0), (272, (.iconst 0, []), 0), (273, (.istore 4, []), 0), (275, (.goto (-229), [(0, 46)]), 0), (278, (.aload_n 0, []), 0), (279, (.getfield 269, [(11, 33)]), 131), (282, (.ifCond .le 7, [(0, 289)]), 0), (285, (.aload_n 0, []), 0), (286, (.invokevirtual 247, [(0, 0), (11, 139)]), 83), (289, (.aload_n 0, []), 0), (290, (.iconst 1, []), 0), (291, (.invokevirtual 276, [(0, 1), (11, 150)]), 132), (294, (.aload_n 0, []), 0), (295, (.iconst 4, []), 0), (296, (.iconst (-1), []), 0), (297, (.lconst 0, []), 0), (298, (.invokevirtual 262, [(0, 3), (11, 148)]), 138), (301, (.iload_n 2, []), 0), (302, (.ireturn, []), 0)]
def mi_146 : rf_E1 := (mt_146, 17, cd_146)
def mt_147 : rf_Mt := (⟨"MemoryTransactionsModel", "readUnary", "(Z)Z"⟩, prog_14_method_17_code, 4, (Option.some Jvm.ClassFile.FieldType.boolean))
def cd_147 : List (Nat × rf_I × Nat) := [(0, (.aload_n 0, []), 0), (1, (.bipush 45, []), 0), (3, (.invokevirtual 244, [(0, 1), (11, 138)]), 82), (6, (.ifCond .ne 12, [(0, 18)]), 0), (9, (.aload_n 0, []), 0), (10, (.bipush 40, []), 0), (12, (.invokevirtual 244, [(0, 1), (11, 138)]), 82), (15, (.ifCond .eq 7, [(0, 22)]), 0), (18, (.iconst 1, []), 0), (19, (.goto 4, [(0, 23)]), 0), (22, (.iconst 0, []), 0), (23, (.istore_n 2, []), 0), (24, (.iload_n 2, []), 0), (25, (.ifCond .ne 32, [(0, 57)]), 0), (28, (.aload_n 0, []), 0), (29, (.getfield 209, [(11, 4)]), 80), (32, (.iconst 3, []), 0), (33, (.if_icmp .eq 24, [(0, 57)]), 0), (36, (.aload_n 0, []), 0), (37, (.getfield 209, [(11, 4)]), 80), (40, (.iconst 2, []), 0), (41, (.if_icmp .ne 20, [(0, 61)]), 0), (44, (.iload_n 1, []), 0), (45, (.ifCond .eq 12, [(0, 57)]), 0), (48, (.aload_n 0, []), 0), (49, (.getfield 216, [(11, 6)]), 115), (52, (.bipush 16, []), 0), (54, (.if_icmp .ge 7, [(0, 61)]), 0), (57, (.iconst 1, []), 0), (58, (.goto 4, [(0, 62)]), 0), (61, (.iconst 0, []), 0), (62, (.istore_n 3, []), 0), (63, (.iload_n 3, []), 0), (64, (.ifCond .eq 30, [(0, 94)]), 0), (67, (.aload_n 0, []), 0), (68, (.getfield 21, [(11, 13)]), 66), (71, (.aload_n 0, []), 0), (72, (.getfield 253, [(11, 28)]), 65), (75, (.iaload, []), 0), (76, (.bipush 60, []), 0), (78, (.if_icmp .eq 16, [(0, 94)]), 0), (81, (.iload_n 2, []), 0), (82, (.ifCond .eq 18, [(0, 100)]), 0), (85, (.aload_n 0, []), 0), (86, (.getfield 266, [(11, 31)]), 134), (89, (.bipush 8, []), 0), (91, (.if_icmp .ne 9, [(0, 100)]), 0), (94, (.aload_n 0, []), 0), (95, (.invokevirtual 247, [(0, 0), (11, 139)]), 83), (98, (.iconst 0, []), 0), (99, (.ireturn, []), 0), (100, (.aload_n 0, []), 0), (101, (.getfield 21, [(11, 13)]), 66), (104, (.aload_n 0, []), 0), (105, (.getfield 253, [(11, 28)]), 65), (108, (.dup2, []), 0), (109, (.iaload, []), 0), (110, (.iconst 1, []), 0), (111, (.iadd, []), 0), (112, (.iastore, []), 0), (113, (.iload_n 2, []), 0), (114, (.ifCond .eq 84, [(0, 198)]), 0), (117, (.aload_n 0, []), 0), (118, (.dup, []), 0), (119, (.getfield 266, [(11, 31)]), 134), (122, (.iconst 1, []), 0), (123, (.iadd, []), 0), (124, (.putfield 266, [(11, 31)]), 127), (127, (.aload_n 0, []), 0), (128, (.getfield 67, [(11, 29)]), 137), (131, (.aload_n 0, []), 0), (132, (.getfield 256, [(11, 30)]), 133), (135, (.aload_n 0, []), 0), (136, (.bipush 40, []), 0), (138, (.invokevirtual 244, [(0, 1), (11, 138)]), 82), (141, (.ifCond .eq 8, [(0, 149)]), 0), (144, (.bipush 40, []), 0), (146, (.goto 6, [(0, 152)]), 0), (149, (.sipush 1000, []), 0), (152, (.iastore, []), 0), (153, (.aload_n 0, []), 0), (154, (.dup, []), 0), (155, (.getfield 256, [(11, 30)]), 133), (158, (.iconst 1, []), 0), (159, (.iadd, []), 0), (160, (.putfield 256, [(11, 30)]), 126), (163, (.aload_n 0, []), 0), (164, (.bipush 40, []), 0), (166, (.invokevirtual 244, [(0, 1), (11, 138)]), 82), (169, (.ifCond .eq 23, [(0, 192)]), 0), (172, (.aload_n 0, []), 0), (173, (.dup, []), 0), (174, (.getfield 269, [(11, 33)]), 131), (177, (.iconst 1, []), 0), (178, (.iadd, []), 0), (179, (.putfield 269, [(11, 33)]), 128), (182, (.aload_n 0, []), 0), (183, (.getfield 70, [(11, 32)]), 129), (186, (.aload_n 0, []), 0), (187, (.getfield 269, [(11, 33)]), 131), (190, (.iconst 0, []), 0), (191, (.bastore, []), 0), (192, (.aload_n 0, []), 0), (193, (.invokevirtual 250, [(0, 0), (11, 132)]), 79), (196, (.iconst 1, []), 0), (197, (.ireturn, []), 0), (198, (.aload_n 0, []), 0), (199, (.aload_n 0, []), 0), (200, (.getfield 209, [(11, 4)]), 80), (203, (.iconst 3, []), 0), (204, (.if_icmp .ne 7, [(0, 211)]), 0), (207, (.iconst 1, []), 0), (208, (.goto 4, [(0, 212)]), 0), (211, (.iconst 2, []), 0), (212, (.aload_n 0, []), 0), (213, (.getfield 209, [(11, 4)]), 80), (216, (.iconst 2, []), 0), (217, (.if_icmp .ne 10, [(0, 227)]), 0), (220, (.aload_n 0, []), 0), (221, (.getfield 216, [(11, 6)]), 115), (224, (.goto 4, [(0, 228)]), 0), (227, (.iconst (-1), []), 0), (228, (.aload_n 0, []), 0), (229, (.getfield 209, [(11, 4)]), 80), (232, (.iconst 3, []), 0), (233, (.if_icmp .ne 10, [(0, 243)]), 0), (236, (.aload_n 0, []), 0), (237, (.getfield 226, [(11, 7)]), 96), (240, (.goto 4, [(0, 244)]), 0), (243, (.lconst 0, []), 0), (244, (.invokevirtual 262, [(0, 3), (11, 148)]), 138), (247, (.aload_n 0, []), 0), (248, (.invokevirtual 250, [(0, 0), (11, 132)]), 79), (251, (.aload_n 0, []), 0), (252, (.invokevirtual 280, [(0, 0), (11, 149)]), 135), (255, (.iconst 0, []), 0), (256, (.ireturn, []), 0)]
def mi_147 : rf_E1 := (mt_147, 17, cd_147)
def mt_148 : rf_Mt := (⟨"MemoryTransactionsModel", "act", "(IIJ)V"⟩, prog_14_method_12_code, 6, (Option.none : Option Jvm.ClassFile.FieldType))
def cd_148 : List (Nat × rf_I × Nat) := [(0, (.sipush 200, []), 0), (3, (.aload_n 0, []), 0), (4, (.getfield 253, [(11, 28)]), 65), (7, (.imul, []), 0), (8, (.aload_n 0, []), 0), (9, (.getfield 30, [(11, 16)]), 68), (12, (.aload_n 0, []), 0), (13, (.getfield 253, [(11, 28)]), 65), (16, (.iaload, []), 0), (17, (.iadd, []), 0), (18, (.istore 5, []), 0), (20, (.aload_n 0, []), 0), (21, (.getfield 30, [(11, 16)]), 68), (24, (.aload_n 0, []), 0), (25, (.getfield 253, [(11, 28)]), 65), (28, (.dup2, []), 0), (29, (.iaload, []), 0), (30, (.iconst 1, []), 0), (31, (.iadd, []), 0), (32, (.iastore, []), 0), (33, (.aload_n 0, []), 0), (34, (.getfield 57, [(11, 25)]), 139), (37, (.iload 5, []), 0), (39, (.iload_n 1, []), 0), (40, (.iastore, []), 0), (41, (.aload_n 0, []), 0), (42, (.getfield 60, [(11, 26)]), 140), (45, (.iload 5, []), 0), (47, (.iload_n 2, []), 0), (48, (.iastore, []), 0), (49, (.aload_n 0, []), 0), (50, (.getfield 63, [(11, 27)]), 141), (53, (.iload 5, []), 0), (55, (.lload_n 3, []), 0), (56, (.lastore, []), 0), (57, (.return_, []), 0)]
def mi_148 : rf_E1 := (mt_148, 17, cd_148)
def mt_149 : rf_Mt := (⟨"MemoryTransactionsModel", "operandIsThere", "()V"⟩, prog_14_method_15_code, 1, (Option.none : Option Jvm.ClassFile.FieldType))
def cd_149 : List (Nat × rf_I × Nat) := [(0, (.aload_n 0, []), 0), (1, (.getfield 256, [(11, 30)]), 133), (4, (.ifCond .le 50, [(0, 54)]), 0), (7, (.aload_n 0, []), 0), (8, (.getfield 67, [(11, 29)]), 137), (11, (.aload_n 0, []), 0), (12, (.getfield 256, [(11, 30)]), 133), (15, (.iconst 1, []), 0), (16, (.isub, []), 0), (17, (.iaload, []), 0), (18, (.sipush 1000, []), 0), (21, (.if_icmp .ne 33, [(0, 54)]), 0), (24, (.aload_n 0, []), 0), (25, (.dup, []), 0), (26, (.getfield 256, [(11, 30)]), 133), (29, (.iconst 1, []), 0), (30, (.isub, []), 0), (31, (.putfield 256, [(11, 30)]), 126), (34, (.aload_n 0, []), 0), (35, (.dup, []), 0), (36, (.getfield 266, [(11, 31)]), 134), (39, (.iconst 1, []), 0), (40, (.isub, []), 0), (41, (.putfield 266, [(11, 31)]), 127), (44, (.aload_n 0, []), 0), (45, (.iconst 3, []), 0), (46, (.iconst (-1), []), 0), (47, (.lconst 0, []), 0), (48, (.invokevirtual 262, [(0, 3), (11, 148)]), 138), (51, (.goto (-51), [(0, 0)]), 0), (54, (.return_, []), 0)]
def mi_149 : rf_E1 := (mt_149, 17, cd_149)
def mt_150 : rf_Mt := (⟨"MemoryTransactionsModel", "reduce", "(I)V"⟩, prog_14_method_14_code, 2, (Option.none : Option Jvm.ClassFile.FieldType))
def cd_150 : List (Nat × rf_I × Nat) := [(0, (.aload_n 0, []), 0), (1, (.getfield 256, [(11, 30)]), 133), (4, (.ifCond .le 82, [(0, 86)]), 0), (7, (.aload_n 0, []), 0), (8, (.getfield 67, [(11, 29)]), 137), (11, (.aload_n 0, []), 0), (12, (.getfield 256, [(11, 30)]), 133), (15, (.iconst 1, []), 0), (16, (.isub, []), 0), (17, (.iaload, []), 0), (18, (.bipush 40, []), 0), (20, (.if_icmp .eq 66, [(0, 86)]), 0), (23, (.aload_n 0, []), 0), (24, (.getfield 67, [(11, 29)]), 137), (27, (.aload_n 0, []), 0), (28, (.getfield 256, [(11, 30)]), 133), (31, (.iconst 1, []), 0), (32, (.isub, []), 0), (33, (.iaload, []), 0), (34, (.sipush 1000, []), 0), (37, (.if_icmp .eq 49, [(0, 86)]), 0), (40, (.aload_n 0, []), 0), (41, (.getfield 67, [(11, 29)]), 137), (44, (.aload_n 0, []), 0), (45, (.getfield 256, [(11, 30)]), 133), (48, (.iconst 1, []), 0), (49, (.isub, []), 0), (50, (.iaload, []), 0), (51, (.invokestatic 259, [(0, 1), (0, 151)]), 136), (54, (.iload_n 1, []), 0), (55, (.if_icmp .lt 31, [(0, 86)]), 0), (58, (.aload_n 0, []), 0), (59, (.dup, []), 0), (60, (.getfield 256, [(11, 30)]), 133), (63, (.iconst 1, []), 0), (64, (.isub, []), 0), (65, (.putfield 256, [(11, 30)]), 126), (68, (.aload_n 0, []), 0), (69, (.aload_n 0, []), 0), (70, (.getfield 67, [(11, 29)]), 137), (73, (.aload_n 0, []), 0), (74, (.getfield 256, [(11, 30)]), 133), (77, (.iaload, []), 0), (78, (.iconst (-1), []), 0), (79, (.lconst 0, []), 0), (80, (.invokevirtual 262, [(0, 3), (11, 148)]), 138), (83, (.goto (-83), [(0, 0)]), 0), (86, (.return_, []), 0)]
def mi_150 : rf_E1 := (mt_150, 17, cd_150)
def mt_151 : rf_Mt := (⟨"MemoryTransactionsModel", "strength", "(I)I"⟩, prog_14_method_13_code, 1, (Option.some Jvm.ClassFile.FieldType.int))
def cd_151 : List (Nat × rf_I × Nat) := [(0, (.iload_n 0, []), 0), (1, (.bipush 42, []), 0), (3, (.if_icmp .eq 15, [(0, 18)]), 0), (6, (.iload_n 0, []), 0), (7, (.bipush 47, []), 0), (9, (.if_icmp .eq 9, [(0, 18)]), 0), (12, (.iload_n 0, []), 0), (13, (.bipush 37, []), 0), (15, (.if_icmp .ne 7, [(0, 22)]), 0), (18, (.iconst 3, []), 0), (19, (.goto 42, [(0, 61)]), 0), (22, (.iload_n 0, []), 0), (23, (.bipush 43, []), 0), (25, (.if_icmp .eq 9, [(0, 34)]), 0), (28, (.iload_n 0, []), 0), (29, (.bipush 45, []), 0), (31, (.if_icmp .ne 7, [(0, 38)]), 0), (34, (.iconst 2, []), 0), (35, (.goto 26, [(0, 61)]), 0), (38, (.iload_n 0, []), 0), (39, (.bipush 60, []), 0), (41, (.if_icmp .eq 15, [(0, 56)]), 0), (44, (.iload_n 0, []), 0), (45, (.bipush 61, []), 0), (47, (.if_icmp .eq 9, [(0, 56)]), 0), (50, (.iload_n 0, []), 0), (51, (.bipush 35, []), 0), (53, (.if_icmp .ne 7, [(0, 60)]), 0), (56, (.iconst 1, []), 0), (57, (.goto 4, [(0, 61)]), 0), (60, (.iconst 0, []), 0), (61, (.ireturn, []), 0)]
def mi_151 : rf_E1 := (mt_151, 17, cd_151)
def mt_152 : rf_Mt := (⟨"MemoryTransactionsModel", "place", "()I"⟩, prog_14_method_27_code, 1, (Option.some Jvm.ClassFile.FieldType.int))
def cd_152 : List (Nat × rf_I × Nat) := [(0, (.aload_n 0, []), 0), (1, (.iconst 0, []), 0), (2, (.putfield 173, [(11, 0)]), 58), (5, (.aload_n 0, []), 0), (6, (.getfield 13, [(11, 10)]), 142), (9, (.ireturn, []), 0)]
def mi_152 : rf_E1 := (mt_152, 17, cd_152)
def mt_153 : rf_Mt := (⟨"MemoryTransactionsModel", "told", "(II)I"⟩, prog_14_method_28_code, 3, (Option.some Jvm.ClassFile.FieldType.int))
def cd_153 : List (Nat × rf_I × Nat) := [(0, (.aload_n 0, []), 0), (1, (.iconst 0, []), 0), (2, (.putfield 173, [(11, 0)]), 58), (5, (.iload_n 1, []), 0), (6, (.ifCond .lt 11, [(0, 17)]), 0), (9, (.iload_n 1, []), 0), (10, (.aload_n 0, []), 0), (11, (.getfield 310, [(11, 11)]), 62), (14, (.if_icmp .lt 5, [(0, 19)]), 0), (17, (.iconst (-1), []), 0), (18, (.ireturn, []), 0), (19, (.iload_n 2, []), 0), (20, (.ifCond .ne 12, [(0, 32)]), 0), (23, (.aload_n 0, []), 0), (24, (.getfield 17, [(11, 12)]), 64), (27, (.iload_n 1, []), 0), (28, (.iaload, []), 0), (29, (.goto 32, [(0, 61)]), 0), (32, (.iload_n 2, []), 0), (33, (.iconst 1, []), 0), (34, (.if_icmp .ne 12, [(0, 46)]), 0), (37, (.aload_n 0, []), 0), (38, (.getfield 21, [(11, 13)]), 66), (41, (.iload_n 1, []), 0), (42, (.iaload, []), 0), (43, (.goto 18, [(0, 61)]), 0), (46, (.iload_n 2, []), 0), (47, (.iconst 2, []), 0), (48, (.if_icmp .ne 12, [(0, 60)]), 0), (51, (.aload_n 0, []), 0), (52, (.getfield 24, [(11, 14)]), 67), (55, (.iload_n 1, []), 0), (56, (.iaload, []), 0), (57, (.goto 4, [(0, 61)]), 0), (60, (.iconst (-1), []), 0), (61, (.ireturn, []), 0)]
def mi_153 : rf_E1 := (mt_153, 17, cd_153)
def mt_154 : rf_Mt := (⟨"MemoryTransactionsModel", "turn", "(I)I"⟩, prog_14_method_58_code, 2, (Option.some Jvm.ClassFile.FieldType.int))
def cd_154 : List (Nat × rf_I × Nat) := [(0, (.aload_n 0, []), 0), (1, (.iconst 0, []), 0), (2, (.putfield 173, [(11, 0)]), 58), (5, (.aload_n 0, []), 0), (6, (.iload_n 1, []), 0), (7, (.invokevirtual 431, [(0, 1), (11, 155)]), 143), (10, (.ifCond .eq 11, [(0, 21)]), 0), (13, (.aload_n 0, []), 0), (14, (.iload_n 1, []), 0), (15, (.invokevirtual 434, [(0, 1), (11, 156)]), 144), (18, (.goto 4, [(0, 22)]), 0), (21, (.iconst (-1), []), 0), (22, (.ireturn, []), 0)]
def mi_154 : rf_E1 := (mt_154, 17, cd_154)
def mt_155 : rf_Mt := (⟨"MemoryTransactionsModel", "isClient", "(I)Z"⟩, prog_14_method_48_code, 2, (Option.some Jvm.ClassFile.FieldType.boolean))
def cd_155 : List (Nat × rf_I × Nat) := [(0, (.iload_n 1, []), 0), (1, (.ifCond .lt 13, [(0, 14)]), 0), (4, (.iload_n 1, []), 0), (5, (.bipush 8, []), 0), (7, (.if_icmp .ge 7, [(0, 14)]), 0), (10, (.iconst 1, []), 0), (11, (.goto 4, [(0, 15)]), 0), (14, (.iconst 0, []), 0), (15, (.ireturn, []), 0)]
def mi_155 : rf_E1 := (mt_155, 17, cd_155)
def mt_156 : rf_Mt := (⟨"MemoryTransactionsModel", "turnOf", "(I)I"⟩, prog_14_method_57_code, 3, (Option.some Jvm.ClassFile.FieldType.int))
def cd_156 : List (Nat × rf_I × Nat) := [(0, (.aload_n 0, []), 0), (1, (.getfield 98, [(11, 44)]), 145), (4, (.iload_n 1, []), 0), (5, (.iaload, []), 0), (6, (.ifCond .ne 5, [(0, 11)]), 0), (9, (.iconst 5, []), 0), (10, (.ireturn, []), 0), (11, (.aload_n 0, []), 0), (12, (.getfield 101, [(11, 45)]), 146), (15, (.iload_n 1, []), 0), (16, (.iaload, []), 0), (17, (.iconst 2, []), 0), (18, (.if_icmp .ne 29, [(0, 47)]), 0), (21, (.aload_n 0, []), 0), (22, (.iconst 0, []), 0), (23, (.putfield 319, [(11, 42)]), 147), (26, (.aload_n 0, []), 0), (27, (.iload_n 1, []), 0), (28, (.invokevirtual 389, [(0, 1), (11, 157)]), 148), (31, (.aload_n 0, []), 0), (32, (.invokevirtual 325, [(0, 0), (11, 158)]), 149), (35, (.ifCond .ne 5, [(0, 40)]), 0), (38, (.iconst 4, []), 0), (39, (.ireturn, []), 0), (40, (.aload_n 0, []), 0), (41, (.getfield 101, [(11, 45)]), 146), (44, (.iload_n 1, []), 0), (45, (.iconst 0, []), 0), (46, (.iastore, []), 0), (47, (.aload_n 0, []), 0), (48, (.getfield 101, [(11, 45)]), 146), (51, (.iload_n 1, []), 0), (52, (.iaload, []), 0), (53, (.ifCond .ne 24, [(0, 77)]), 0), (56, (.aload_n 0, []), 0), (57, (.getfield 101, [(11, 45)]), 146), (60, (.iload_n 1, []), 0), (61, (.iconst 1, []), 0), (62, (.iastore, []), 0), (63, (.aload_n 0, []), 0), (64, (.getfield 104, [(11, 46)]), 150), (67, (.iload_n 1, []), 0), (68, (.iconst 0, []), 0), (69, (.iastore, []), 0), (70, (.aload_n 0, []), 0), (71, (.getfield 113, [(11, 49)]), 151), (74, (.iload_n 1, []), 0), (75, (.iconst 0, []), 0), (76, (.iastore, []), 0), (77, (.aload_n 0, []), 0), (78, (.iload_n 1, []), 0), (79, (.invokevirtual 405, [(0, 1), (11, 159)]), 152), (82, (.aload_n 0, []), 0), (83, (.getfield 104, [(11, 46)]), 150), (86, (.iload_n 1, []), 0), (87, (.iaload, []), 0), (88, (.sipush 300, []), 0), (91, (.if_icmp .ne 15, [(0, 106)]), 0), (94, (.iconst 2, []), 0), (95, (.istore_n 2, []), 0), (96, (.aload_n 0, []), 0), (97, (.ldc2_w 408, [(1, 18446744073709551613)]), 153), (100, (.putfield 342, [(11, 66)]), 154), (103, (.goto 8, [(0, 111)]), 0), (106, (.aload_n 0, []), 0), (107, (.invokevirtual 395, [(0, 0), (11, 162)]), 155), (110, (.istore_n 2, []), 0), (111, (.iload_n 2, []), 0), (112, (.ifCond .ne 20, [(0, 132)]), 0), (115, (.aload_n 0, []), 0), (116, (.getfield 104, [(11, 46)]), 150), (119, (.iload_n 1, []), 0), (120, (.dup2, []), 0), (121, (.iaload, []), 0), (122, (.iconst 1, []), 0), (123, (.iadd, []), 0), (124, (.iastore, []), 0), (125, (.aload_n 0, []), 0), (126, (.iload_n 1, []), 0), (127, (.invokevirtual 410, [(0, 1), (11, 173)]), 156), (130, (.iconst 0, []), 0), (131, (.ireturn, []), 0), (132, (.iload_n 2, []), 0), (133, (.iconst 1, []), 0), (134, (.if_icmp .eq 10, [(0, 144)]), 0), (137, (.aload_n 0, []), 0), (138, (.invokevirtual 325, [(0, 0), (11, 158)]), 149), (141, (.ifCond .eq 9, [(0, 150)]), 0), (144, (.aload_n 0, []), 0), (145, (.iload_n 1, []), 0), (146, (.invokevirtual 413, [(0, 1), (11, 174)]), 157), (149, (.ireturn, []), 0), (150, (.iload_n 2, []), 0), (151, (.iconst 3, []), 0), (152, (.if_icmp .ne 31, [(0, 183)]), 0), (155, (.aload_n 0, []), 0), (156, (.getfield 101, [(11, 45)]), 146), (159, (.iload_n 1, []), 0), (160, (.iconst 2, []), 0), (161, (.iastore, []), 0), (162, (.aload_n 0, []), 0), (163, (.getfield 104, [(11, 46)]), 150), (166, (.iload_n 1, []), 0), (167, (.iconst 0, []), 0), (168, (.iastore, []), 0), (169, (.aload_n 0, []), 0), (170, (.getfield 110, [(11, 48)]), 158), (173, (.iload_n 1, []), 0), (174, (.iconst 0, []), 0), (175, (.bastore, []), 0), (176, (.aload_n 0, []), 0), (177, (.iload_n 1, []), 0), (178, (.invokevirtual 410, [(0, 1), (11, 173)]), 156), (181, (.iconst 4, []), 0), (182, (.ireturn, []), 0), (183, (.aload_n 0, []), 0), (184, (.iload_n 1, []), 0), (185, (.invokevirtual 416, [(0, 1), (11, 175)]), 159), (188, (.ifCond .eq 6, [(0, 194)]), 0), (191, (.bipush 6, []), 0), (193, (.ireturn, []), 0), (194, (.iload_n 2, []), 0), (195, (.iconst 2, []), 0), (196, (.if_icmp .ne 13, [(0, 209)]), 0), (199, (.aload_n 0, []), 0), (200, (.iload_n 1, []), 0), (201, (.aload_n 0, []), 0), (202, (.getfield 342, [(11, 66)]), 160), (205, (.invokevirtual 419, [(0, 2), (11, 176)]), 161), (208, (.ireturn, []), 0), (209, (.aload_n 0, []), 0), (210, (.invokevirtual 423, [(0, 0), (11, 179)]), 162), (213, (.ifCond .ne 12, [(0, 225)]), 0), (216, (.aload_n 0, []), 0), (217, (.iload_n 1, []), 0), (218, (.ldc2_w 426, [(1, 18446744073709551614)]), 163), (221, (.invokevirtual 419, [(0, 2), (11, 176)]), 161), (224, (.ireturn, []), 0), (225, (.aload_n 0, []), 0), (226, (.getfield 386, [(11, 69)]), 164), (229, (.sipush 300, []), 0), (232, (.if_icmp .ne 5, [(0, 237)]), 0), (235, (.iconst (-1), []), 0), (236, (.ireturn, []), 0), (237, (.aload_n 0, []), 0), (238, (.invokevirtual 428, [(0, 0), (11, 182)]), 165), (241, (.aload_n 0, []), 0), (242, (.iconst 1, []), 0), (243, (.iload_n 1, []), 0), (244, (.aload_n 0, []), 0), (245, (.iload_n 1, []), 0), (246, (.invokevirtual 392, [(0, 1), (11, 160)]), 166), (249, (.aload_n 0, []), 0), (250, (.getfield 104, [(11, 46)]), 150), (253, (.iload_n 1, []), 0), (254, (.iaload, []), 0), (255, (.iconst 1, []), 0), (256, (.iadd, []), 0), (257, (.aload_n 0, []), 0), (258, (.getfield 107, [(11, 47)]), 167), (261, (.iload_n 1, []), 0), (262, (.iaload, []), 0), (263, (.lconst 0, []), 0), (264, (.invokevirtual 398, [(0, 6), (11, 177)]), 168), (267, (.aload_n 0, []), 0), (268, (.iload_n 1, []), 0), (269, (.invokevirtual 402, [(0, 1), (11, 178)]), 169), (272, (.iconst 1, []), 0), (273, (.ireturn, []), 0)]
def mi_156 : rf_E1 := (mt_156, 17, cd_156)
def mt_157 : rf_Mt := (⟨"MemoryTransactionsModel", "bringRead", "(I)V"⟩, prog_14_method_50_code, 3, (Option.none : Option Jvm.ClassFile.FieldType))
def cd_157 : List (Nat × rf_I × Nat) := [(0, (.aload_n 0, []), 0), (1, (.aload_n 0, []), 0), (2, (.getfield 113, [(11, 49)]), 151), (5, (.iload_n 1, []), 0), (6, (.iaload, []), 0), (7, (.putfield 316, [(11, 52)]), 170), (10, (.iconst 0, []), 0), (11, (.istore_n 2, []), 0), (12, (.iload_n 2, []), 0), (13, (.bipush 16, []), 0), (15, (.if_icmp .ge 43, [(0, 58)]), 0), (18, (.aload_n 0, []), 0), (19, (.getfield 122, [(11, 53)]), 171), (22, (.iload_n 2, []), 0), (23, (.aload_n 0, []), 0), (24, (.getfield 116, [(11, 50)]), 172), (27, (.bipush 16, []), 0), (29, (.iload_n 1, []), 0), (30, (.imul, []), 0), (31, (.iload_n 2, []), 0), (32, (.iadd, []), 0), (33, (.laload, []), 0), (34, (.lastore, []), 0), (35, (.aload_n 0, []), 0), (36, (.getfield 125, [(11, 54)]), 173), (39, (.iload_n 2, []), 0), (40, (.aload_n 0, []), 0), (41, (.getfield 119, [(11, 51)]), 174), (44, (.bipush 16, []), 0), (46, (.iload_n 1, []), 0), (47, (.imul, []), 0), (48, (.iload_n 2, []), 0), (49, (.iadd, []), 0), (50, (.iaload, []), 0), (51, (.iastore, []), 0), (52, (.iinc 2 1, []), 0), (55, (.goto (-43), [(0, 12)]), 0), (58, (.return_, []), 0)]
def mi_157 : rf_E1 := (mt_157, 17, cd_157)
def mt_158 : rf_Mt := (⟨"MemoryTransactionsModel", "isChanged", "()Z"⟩, prog_14_method_29_code, 2, (Option.some Jvm.ClassFile.FieldType.boolean))
def cd_158 : List (Nat × rf_I × Nat) := [(0, (.iconst 0, []), 0), (1, (.istore_n 1, []), 0), (2, (.iload_n 1, []), 0), (3, (.bipush 16, []), 0), (5, (.if_icmp .ge 46, [(0, 51)]), 0), (8, (.aload_n 0, []), 0), (9, (.getfield 316, [(11, 52)]), 175), (12, (.iload_n 1, []), 0), (13, (.ishr, []), 0), (14, (.iconst 1, []), 0), (15, (.iand, []), 0), (16, (.iconst 1, []), 0), (17, (.if_icmp .ne 28, [(0, 45)]), 0), (20, (.aload_n 0, []), 0), (21, (.getfield 125, [(11, 54)]), 173), (24, (.iload_n 1, []), 0), (25, (.iaload, []), 0), (26, (.aload_n 0, []), 0), (27, (.getfield 86, [(11, 39)]), 176), (30, (.bipush 16, []), 0), (32, (.aload_n 0, []), 0), (33, (.getfield 319, [(11, 42)]), 177), (36, (.imul, []), 0), (37, (.iload_n 1, []), 0), (38, (.iadd, []), 0), (39, (.iaload, []), 0), (40, (.if_icmp .eq 5, [(0, 45)]), 0), (43, (.iconst 1, []), 0), (44, (.ireturn, []), 0), (45, (.iinc 1 1, []), 0), (48, (.goto (-46), [(0, 2)]), 0), (51, (.iconst 0, []), 0), (52, (.ireturn, []), 0)]
def mi_158 : rf_E1 := (mt_158, 17, cd_158)
def mt_159 : rf_Mt := (⟨"MemoryTransactionsModel", "walkAnew", "(I)V"⟩, prog_14_method_52_code, 4, (Option.none : Option Jvm.ClassFile.FieldType))
def cd_159 : List (Nat × rf_I × Nat) := [(0, (.aload_n 0, []), 0), (1, (.iconst 0, []), 0), (2, (.putfield 319, [(11, 42)]), 147), (5, (.aload_n 0, []), 0), (6, (.iload_n 1, []), 0), (7, (.invokevirtual 389, [(0, 1), (11, 157)]), 148), (10, (.aload_n 0, []), 0), (11, (.aload_n 0, []), 0), (12, (.iload_n 1, []), 0), (13, (.invokevirtual 392, [(0, 1), (11, 160)]), 166), (16, (.invokevirtual 345, [(0, 1), (11, 161)]), 178), (19, (.iconst 0, []), 0), (20, (.istore_n 2, []), 0), (21, (.iload_n 2, []), 0), (22, (.aload_n 0, []), 0), (23, (.getfield 104, [(11, 46)]), 150), (26, (.iload_n 1, []), 0), (27, (.iaload, []), 0), (28, (.if_icmp .ge 14, [(0, 42)]), 0), (31, (.aload_n 0, []), 0), (32, (.invokevirtual 395, [(0, 0), (11, 162)]), 155), (35, (.istore_n 3, []), 0), (36, (.iinc 2 1, []), 0), (39, (.goto (-18), [(0, 21)]), 0), (42, (.return_, []), 0)]
def mi_159 : rf_E1 := (mt_159, 17, cd_159)
def mt_160 : rf_Mt := (⟨"MemoryTransactionsModel", "firstOf", "(I)I"⟩, prog_14_method_49_code, 2, (Option.some Jvm.ClassFile.FieldType.int))
def cd_160 : List (Nat × rf_I × Nat) := [(0, (.aload_n 0, []), 0), (1, (.getfield 95, [(11, 43)]), 179), (4, (.bipush 16, []), 0), (6, (.iload_n 1, []), 0), (7, (.imul, []), 0), (8, (.iaload, []), 0), (9, (.ireturn, []), 0)]
def mi_160 : rf_E1 := (mt_160, 17, cd_160)
def mt_161 : rf_Mt := (⟨"MemoryTransactionsModel", "beginWalk", "(I)V"⟩, prog_14_method_34_code, 3, (Option.none : Option Jvm.ClassFile.FieldType))
def cd_161 : List (Nat × rf_I × Nat) := [(0, (.aload_n 0, []), 0), (1, (.iconst 0, []), 0), (2, (.putfield 322, [(11, 55)]), 180), (5, (.aload_n 0, []), 0), (6, (.iconst 0, []), 0), (7, (.putfield 348, [(11, 58)]), 181), (10, (.iconst 0, []), 0), (11, (.istore_n 2, []), 0), (12, (.iload_n 2, []), 0), (13, (.bipush 10, []), 0), (15, (.if_icmp .ge 16, [(0, 31)]), 0), (18, (.aload_n 0, []), 0), (19, (.getfield 131, [(11, 57)]), 182), (22, (.iload_n 2, []), 0), (23, (.lconst 0, []), 0), (24, (.lastore, []), 0), (25, (.iinc 2 1, []), 0), (28, (.goto (-16), [(0, 12)]), 0), (31, (.aload_n 0, []), 0), (32, (.aload_n 0, []), 0), (33, (.getfield 27, [(11, 15)]), 78), (36, (.iload_n 1, []), 0), (37, (.iaload, []), 0), (38, (.putfield 351, [(11, 60)]), 183), (41, (.return_, []), 0)]
def mi_161 : rf_E1 := (mt_161, 17, cd_161)
def mt_162 : rf_Mt := (⟨"MemoryTransactionsModel", "step", "()I"⟩, prog_14_method_40_code, 4, (Option.some Jvm.ClassFile.FieldType.int))
def cd_162 : List (Nat × rf_I × Nat) := [(0, (.aload_n 0, []), 0), (1, (.getfield 351, [(11, 60)]), 184), (4, (.istore_n 1, []), 0), (5, (.iload_n 1, []), 0), (6, (.ifCond .ge 5, [(0, 11)]), 0), (9, (.iconst 4, []), 0), (10, (.ireturn, []), 0), (11, (.aload_n 0, []), 0), (12, (.iconst 0, []), 0), (13, (.putfield 329, [(11, 65)]), 185), (16, (.aload_n 0, []), 0), (17, (.getfield 45, [(11, 21)]), 119), (20, (.iload_n 1, []), 0), (21, (.iaload, []), 0), (22, (.ifCond .lt 28, [(0, 50)]), 0), (25, (.aload_n 0, []), 0), (26, (.getfield 33, [(11, 17)]), 112), (29, (.iload_n 1, []), 0), (30, (.iaload, []), 0), (31, (.bipush 9, []), 0), (33, (.if_icmp .eq 17, [(0, 50)]), 0), (36, (.aload_n 0, []), 0), (37, (.aload_n 0, []), 0), (38, (.getfield 45, [(11, 21)]), 119), (41, (.iload_n 1, []), 0), (42, (.iaload, []), 0), (43, (.iconst 0, []), 0), (44, (.invokevirtual 357, [(0, 2), (11, 163)]), 186), (47, (.goto 4, [(0, 51)]), 0), (50, (.lconst 0, []), 0), (51, (.lstore_n 2, []), 0), (52, (.aload_n 0, []), 0), (53, (.getfield 329, [(11, 65)]), 187), (56, (.iconst 2, []), 0), (57, (.if_icmp .ne 5, [(0, 62)]), 0), (60, (.iconst 1, []), 0), (61, (.ireturn, []), 0), (62, (.aload_n 0, []), 0), (63, (.getfield 329, [(11, 65)]), 187), (66, (.iconst 1, []), 0), (67, (.if_icmp .ne 9, [(0, 76)]), 0), (70, (.aload_n 0, []), 0), (71, (.iload_n 1, []), 0), (72, (.invokevirtual 361, [(0, 1), (11, 166)]), 188), (75, (.ireturn, []), 0), (76, (.aload_n 0, []), 0), (77, (.getfield 33, [(11, 17)]), 112), (80, (.iload_n 1, []), 0), (81, (.iaload, []), 0), (82, (.lookupswitch 248 #[(0, 128), (2, 162), (3, 205), (4, 194), (9, 211), (20, 58)], [(0, 330), (0, 210), (2, 244), (3, 287), (4, 276), (9, 293), (20, 140)]), 0), (140, (.aload_n 0, []), 0), (141, (.getfield 54, [(11, 24)]), 116), (144, (.iload_n 1, []), 0), (145, (.iaload, []), 0), (146, (.bipush 16, []), 0), (148, (.if_icmp .lt 21, [(0, 169)]), 0), (151, (.aload_n 0, []), 0), (152, (.getfield 131, [(11, 57)]), 182), (155, (.aload_n 0, []), 0), (156, (.getfield 54, [(11, 24)]), 116), (159, (.iload_n 1, []), 0), (160, (.iaload, []), 0), (161, (.bipush 16, []), 0), (163, (.isub, []), 0), (164, (.lload_n 2, []), 0), (165, (.lastore, []), 0), (166, (.goto 32, [(0, 198)]), 0), (169, (.aload_n 0, []), 0), (170, (.getfield 128, [(11, 56)]), 189), (173, (.aload_n 0, []), 0), (174, (.getfield 54, [(11, 24)]), 116), (177, (.iload_n 1, []), 0), (178, (.iaload, []), 0), (179, (.lload_n 2, []), 0), (180, (.lastore, []), 0), (181, (.aload_n 0, []), 0), (182, (.aload_n 0, []), 0), (183, (.getfield 322, [(11, 55)]), 190), (186, (.iconst 1, []), 0), (187, (.aload_n 0, []), 0), (188, (.getfield 54, [(11, 24)]), 116), (191, (.iload_n 1, []), 0), (192, (.iaload, []), 0), (193, (.ishl, []), 0), (194, (.ior, []), 0), (195, (.putfield 322, [(11, 55)]), 180), (198, (.aload_n 0, []), 0), (199, (.aload_n 0, []), 0), (200, (.iload_n 1, []), 0), (201, (.invokevirtual 354, [(0, 1), (11, 170)]), 191), (204, (.putfield 351, [(11, 60)]), 183), (207, (.goto 139, [(0, 346)]), 0), (210, (.lload_n 2, []), 0), (211, (.lconst 0, []), 0), (212, (.lcmp, []), 0), (213, (.ifCond .eq 17, [(0, 230)]), 0), (216, (.aload_n 0, []), 0), (217, (.iload_n 1, []), 0), (218, (.aload_n 0, []), 0), (219, (.getfield 48, [(11, 22)]), 124), (222, (.iload_n 1, []), 0), (223, (.iaload, []), 0), (224, (.invokevirtual 364, [(0, 2), (11, 169)]), 192), (227, (.goto 119, [(0, 346)]), 0), (230, (.aload_n 0, []), 0), (231, (.iload_n 1, []), 0), (232, (.aload_n 0, []), 0), (233, (.getfield 51, [(11, 23)]), 125), (236, (.iload_n 1, []), 0), (237, (.iaload, []), 0), (238, (.invokevirtual 364, [(0, 2), (11, 169)]), 192), (241, (.goto 105, [(0, 346)]), 0), (244, (.lload_n 2, []), 0), (245, (.lconst 0, []), 0), (246, (.lcmp, []), 0), (247, (.ifCond .eq 17, [(0, 264)]), 0), (250, (.aload_n 0, []), 0), (251, (.iload_n 1, []), 0), (252, (.aload_n 0, []), 0), (253, (.getfield 48, [(11, 22)]), 124), (256, (.iload_n 1, []), 0), (257, (.iaload, []), 0), (258, (.invokevirtual 364, [(0, 2), (11, 169)]), 192), (261, (.goto 85, [(0, 346)]), 0), (264, (.aload_n 0, []), 0), (265, (.aload_n 0, []), 0), (266, (.iload_n 1, []), 0), (267, (.invokevirtual 354, [(0, 1), (11, 170)]), 191), (270, (.putfield 351, [(11, 60)]), 183), (273, (.goto 73, [(0, 346)]), 0), (276, (.aload_n 0, []), 0), (277, (.lload_n 2, []), 0), (278, (.putfield 342, [(11, 66)]), 154), (281, (.aload_n 0, []), 0), (282, (.iload_n 1, []), 0), (283, (.invokevirtual 361, [(0, 1), (11, 166)]), 188), (286, (.ireturn, []), 0), (287, (.aload_n 0, []), 0), (288, (.iload_n 1, []), 0), (289, (.invokevirtual 367, [(0, 1), (11, 171)]), 193), (292, (.ireturn, []), 0), (293, (.aload_n 0, []), 0), (294, (.getfield 134, [(11, 59)]), 194), (297, (.aload_n 0, []), 0), (298, (.getfield 348, [(11, 58)]), 195), (301, (.aload_n 0, []), 0), (302, (.getfield 45, [(11, 21)]), 119), (305, (.iload_n 1, []), 0), (306, (.iaload, []), 0), (307, (.iastore, []), 0), (308, (.aload_n 0, []), 0), (309, (.dup, []), 0), (310, (.getfield 348, [(11, 58)]), 195), (313, (.iconst 1, []), 0), (314, (.iadd, []), 0), (315, (.putfield 348, [(11, 58)]), 181), (318, (.aload_n 0, []), 0), (319, (.aload_n 0, []), 0), (320, (.iload_n 1, []), 0), (321, (.invokevirtual 354, [(0, 1), (11, 170)]), 191), (324, (.putfield 351, [(11, 60)]), 183), (327, (.goto 19, [(0, 346)]), 0), (330, (.aload_n 0, []), 0), (331, (.iload_n 1, []), 0), (332, (.invokevirtual 370, [(0, 1), (11, 172)]), 196), (335, (.aload_n 0, []), 0), (336, (.iload_n 1, []), 0), (337, (.aload_n 0, []), 0), (338, (.getfield 48, [(11, 22)]), 124), (341, (.iload_n 1, []), 0), (342, (.iaload, []), 0), (343, (.invokevirtual 364, [(0, 2), (11, 169)]), 192), (346, (.iconst 0, []), 0), (347, (.ireturn, []), 0)]
def mi_162 : rf_E1 := (mt_162, 17, cd_162)
def mt_163 : rf_Mt := (⟨"MemoryTransactionsModel", "work", "(IZ)J"⟩, prog_14_method_31_code, 6, (Option.some Jvm.ClassFile.FieldType.long))
def cd_163 : List (Nat × rf_I × Nat) := [(0, (.iconst 0, []), 0), (1, (.istore_n 3, []), 0), (2, (.iload_n 1, []), 0), (3, (.istore 4, []), 0), (5, (.aload_n 0, []), 0), (6, (.getfield 57, [(11, 25)]), 139), (9, (.iload 4, []), 0), (11, (.iaload, []), 0), (12, (.iconst 4, []), 0), (13, (.if_icmp .eq 155, [(0, 168)]), 0), (16, (.aload_n 0, []), 0), (17, (.getfield 329, [(11, 65)]), 187), (20, (.ifCond .ne 148, [(0, 168)]), 0), (23, (.aload_n 0, []), 0), (24, (.getfield 57, [(11, 25)]), 139), (27, (.iload 4, []), 0), (29, (.iaload, []), 0), (30, (.istore 5, []), 0), (32, (.iload 5, []), 0), (34, (.iconst 1, []), 0), (35, (.if_icmp .ne 22, [(0, 57)]), 0), (38, (.aload_n 0, []), 0), (39, (.getfield 149, [(11, 67)]), 197), (42, (.iload_n 3, []), 0), (43, (.aload_n 0, []), 0), (44, (.getfield 63, [(11, 27)]), 141), (47, (.iload 4, []), 0), (49, (.laload, []), 0), (50, (.lastore, []), 0), (51, (.iinc 3 1, []), 0), (54, (.goto 108, [(0, 162)]), 0), (57, (.iload 5, []), 0), (59, (.iconst 2, []), 0), (60, (.if_icmp .ne 45, [(0, 105)]), 0), (63, (.aload_n 0, []), 0), (64, (.getfield 149, [(11, 67)]), 197), (67, (.iload_n 3, []), 0), (68, (.iload_n 2, []), 0), (69, (.ifCond .eq 18, [(0, 87)]), 0), (72, (.aload_n 0, []), 0), (73, (.getfield 152, [(11, 68)]), 198), (76, (.aload_n 0, []), 0), (77, (.getfield 60, [(11, 26)]), 140), (80, (.iload 4, []), 0), (82, (.iaload, []), 0), (83, (.laload, []), 0), (84, (.goto 14, [(0, 98)]), 0), (87, (.aload_n 0, []), 0), (88, (.aload_n 0, []), 0), (89, (.getfield 60, [(11, 26)]), 140), (92, (.iload 4, []), 0), (94, (.iaload, []), 0), (95, (.invokevirtual 332, [(0, 1), (11, 164)]), 199), (98, (.lastore, []), 0), (99, (.iinc 3 1, []), 0), (102, (.goto 60, [(0, 162)]), 0), (105, (.iload 5, []), 0), (107, (.iconst 3, []), 0), (108, (.if_icmp .ne 23, [(0, 131)]), 0), (111, (.aload_n 0, []), 0), (112, (.getfield 149, [(11, 67)]), 197), (115, (.iload_n 3, []), 0), (116, (.iconst 1, []), 0), (117, (.isub, []), 0), (118, (.aload_n 0, []), 0), (119, (.getfield 149, [(11, 67)]), 197), (122, (.iload_n 3, []), 0), (123, (.iconst 1, []), 0), (124, (.isub, []), 0), (125, (.laload, []), 0), (126, (.lneg, []), 0), (127, (.lastore, []), 0), (128, (.goto 34, [(0, 162)]), 0), (131, (.iinc 3 (-1), []), 0), (134, (.aload_n 0, []), 0), (135, (.getfield 149, [(11, 67)]), 197), (138, (.iload_n 3, []), 0), (139, (.iconst 1, []), 0), (140, (.isub, []), 0), (141, (.aload_n 0, []), 0), (142, (.iload 5, []), 0), (144, (.aload_n 0, []), 0), (145, (.getfield 149, [(11, 67)]), 197), (148, (.iload_n 3, []), 0), (149, (.iconst 1, []), 0), (150, (.isub, []), 0), (151, (.laload, []), 0), (152, (.aload_n 0, []), 0), (153, (.getfield 149, [(11, 67)]), 197), (156, (.iload_n 3, []), 0), (157, (.laload, []), 0), (158, (.invokevirtual 336, [(0, 3), (11, 165)]), 200), (161, (.lastore, []), 0), (162, (.iinc 4 1, []), 0), (165, (.goto (-160), [(0, 5)]), 0), (168, (.aload_n 0, []), 0), (169, (.getfield 329, [(11, 65)]), 187), (172, (.ifCond .ne 12, [(0, 184)]), 0), (175, (.aload_n 0, []), 0), (176, (.getfield 149, [(11, 67)]), 197), (179, (.iconst 0, []), 0), (180, (.laload, []), 0), (181, (.goto 4, [(0, 185)]), 0), (184, (.lconst 0, []), 0), (185, (.lreturn, []), 0)]
def mi_163 : rf_E1 := (mt_163, 17, cd_163)
def mt_164 : rf_Mt := (⟨"MemoryTransactionsModel", "valueOf", "(I)J"⟩, prog_14_method_30_code, 2, (Option.some Jvm.ClassFile.FieldType.long))
def cd_164 : List (Nat × rf_I × Nat) := [(0, (.iload_n 1, []), 0), (1, (.bipush 16, []), 0), (3, (.if_icmp .lt 13, [(0, 16)]), 0), (6, (.aload_n 0, []), 0), (7, (.getfield 131, [(11, 57)]), 182), (10, (.iload_n 1, []), 0), (11, (.bipush 16, []), 0), (13, (.isub, []), 0), (14, (.laload, []), 0), (15, (.lreturn, []), 0), (16, (.aload_n 0, []), 0), (17, (.getfield 322, [(11, 55)]), 190), (20, (.iload_n 1, []), 0), (21, (.ishr, []), 0), (22, (.iconst 1, []), 0), (23, (.iand, []), 0), (24, (.iconst 1, []), 0), (25, (.if_icmp .ne 10, [(0, 35)]), 0), (28, (.aload_n 0, []), 0), (29, (.getfield 128, [(11, 56)]), 189), (32, (.iload_n 1, []), 0), (33, (.laload, []), 0), (34, (.lreturn, []), 0), (35, (.aload_n 0, []), 0), (36, (.getfield 316, [(11, 52)]), 175), (39, (.iload_n 1, []), 0), (40, (.ishr, []), 0), (41, (.iconst 1, []), 0), (42, (.iand, []), 0), (43, (.ifCond .ne 69, [(0, 112)]), 0), (46, (.aload_n 0, []), 0), (47, (.invokevirtual 325, [(0, 0), (11, 158)]), 149), (50, (.ifCond .eq 10, [(0, 60)]), 0), (53, (.aload_n 0, []), 0), (54, (.iconst 2, []), 0), (55, (.putfield 329, [(11, 65)]), 185), (58, (.lconst 0, []), 0), (59, (.lreturn, []), 0), (60, (.aload_n 0, []), 0), (61, (.aload_n 0, []), 0), (62, (.getfield 316, [(11, 52)]), 175), (65, (.iconst 1, []), 0), (66, (.iload_n 1, []), 0), (67, (.ishl, []), 0), (68, (.ior, []), 0), (69, (.putfield 316, [(11, 52)]), 170), (72, (.aload_n 0, []), 0), (73, (.getfield 122, [(11, 53)]), 171), (76, (.iload_n 1, []), 0), (77, (.aload_n 0, []), 0), (78, (.getfield 83, [(11, 38)]), 201), (81, (.bipush 16, []), 0), (83, (.aload_n 0, []), 0), (84, (.getfield 319, [(11, 42)]), 177), (87, (.imul, []), 0), (88, (.iload_n 1, []), 0), (89, (.iadd, []), 0), (90, (.laload, []), 0), (91, (.lastore, []), 0), (92, (.aload_n 0, []), 0), (93, (.getfield 125, [(11, 54)]), 173), (96, (.iload_n 1, []), 0), (97, (.aload_n 0, []), 0), (98, (.getfield 86, [(11, 39)]), 176), (101, (.bipush 16, []), 0), (103, (.aload_n 0, []), 0), (104, (.getfield 319, [(11, 42)]), 177), (107, (.imul, []), 0), (108, (.iload_n 1, []), 0), (109, (.iadd, []), 0), (110, (.iaload, []), 0), (111, (.iastore, []), 0), (112, (.aload_n 0, []), 0), (113, (.getfield 122, [(11, 53)]), 171), (116, (.iload_n 1, []), 0), (117, (.laload, []), 0), (118, (.lreturn, []), 0)]
def mi_164 : rf_E1 := (mt_164, 17, cd_164)
def mt_165 : rf_Mt := (⟨"MemoryTransactionsModel", "two", "(IJJ)J"⟩, prog_14_method_32_code, 6, (Option.some Jvm.ClassFile.FieldType.long))
def cd_165 : List (Nat × rf_I × Nat) := [(0, (.iload_n 1, []), 0), (1, (.lookupswitch 113 #[(35, 85), (42, 108), (43, 98), (45, 103), (60, 59), (61, 72)], [(0, 114), (35, 86), (42, 109), (43, 99), (45, 104), (60, 60), (61, 73)]), 0), (60, (.lload_n 2, []), 0), (61, (.lload 4, []), 0), (63, (.lcmp, []), 0), (64, (.ifCond .ge 7, [(0, 71)]), 0), (67, (.lconst 1, []), 0), (68, (.goto 4, [(0, 72)]), 0), (71, (.lconst 0, []), 0), (72, (.lreturn, []), 0), (73, (.lload_n 2, []), 0), (74, (.lload 4, []), 0), (76, (.lcmp, []), 0), (77, (.ifCond .ne 7, [(0, 84)]), 0), (80, (.lconst 1, []), 0), (81, (.goto 4, [(0, 85)]), 0), (84, (.lconst 0, []), 0), (85, (.lreturn, []), 0), (86, (.lload_n 2, []), 0), (87, (.lload 4, []), 0), (89, (.lcmp, []), 0), (90, (.ifCond .eq 7, [(0, 97)]), 0), (93, (.lconst 1, []), 0), (94, (.goto 4, [(0, 98)]), 0), (97, (.lconst 0, []), 0), (98, (.lreturn, []), 0), (99, (.lload_n 2, []), 0), (100, (.lload 4, []), 0), (102, (.ladd, []), 0), (103, (.lreturn, []), 0), (104, (.lload_n 2, []), 0), (105, (.lload 4, []), 0), (107, (.lsub, []), 0), (108, (.lreturn, []), 0), (109, (.lload_n 2, []), 0), (110, (.lload 4, []), 0), (112, (.lmul, []), 0), (113, (.lreturn, []), 0), (114, (.lload 4, []), 0), (116, (.lconst 0, []), 0), (117, (.lcmp, []), 0), (118, (.ifCond .ne 17, [(0, 135)]), 0), (121, (.aload_n 0, []), 0), (122, (.iconst 1, []), 0), (123, (.putfield 329, [(11, 65)]), 185), (126, (.aload_n 0, []), 0), (127, (.ldc2_w 340, [(1, 18446744073709551615)]), 202), (130, (.putfield 342, [(11, 66)]), 154), (133, (.lconst 0, []), 0), (134, (.lreturn, []), 0), (135, (.iload_n 1, []), 0), (136, (.bipush 47, []), 0), (138, (.if_icmp .ne 24, [(0, 162)]), 0), (141, (.lload 4, []), 0), (143, (.ldc2_w 340, [(1, 18446744073709551615)]), 202), (146, (.lcmp, []), 0), (147, (.ifCond .ne 8, [(0, 155)]), 0), (150, (.lload_n 2, []), 0), (151, (.lneg, []), 0), (152, (.goto 27, [(0, 179)]), 0), (155, (.lload_n 2, []), 0), (156, (.lload 4, []), 0), (158, (.ldiv, []), 0), (159, (.goto 20, [(0, 179)]), 0), (162, (.lload 4, []), 0), (164, (.ldc2_w 340, [(1, 18446744073709551615)]), 202), (167, (.lcmp, []), 0), (168, (.ifCond .ne 7, [(0, 175)]), 0), (171, (.lconst 0, []), 0), (172, (.goto 7, [(0, 179)]), 0), (175, (.lload_n 2, []), 0), (176, (.lload 4, []), 0), (178, (.lrem, []), 0), (179, (.lreturn, []), 0)]
def mi_165 : rf_E1 := (mt_165, 17, cd_165)
def mt_166 : rf_Mt := (⟨"MemoryTransactionsModel", "throwFrom", "(I)I"⟩, prog_14_method_41_code, 3, (Option.some Jvm.ClassFile.FieldType.int))
def cd_166 : List (Nat × rf_I × Nat) := [(0, (.aload_n 0, []), 0), (1, (.iload_n 1, []), 0), (2, (.bipush 7, []), 0), (4, (.invokevirtual 373, [(0, 2), (11, 167)]), 203), (7, (.istore_n 2, []), 0), (8, (.iload_n 2, []), 0), (9, (.ifCond .ge 5, [(0, 14)]), 0), (12, (.iconst 2, []), 0), (13, (.ireturn, []), 0), (14, (.aload_n 0, []), 0), (15, (.iload_n 2, []), 0), (16, (.invokevirtual 377, [(0, 1), (11, 168)]), 204), (19, (.aload_n 0, []), 0), (20, (.getfield 131, [(11, 57)]), 182), (23, (.aload_n 0, []), 0), (24, (.getfield 54, [(11, 24)]), 116), (27, (.iload_n 2, []), 0), (28, (.iaload, []), 0), (29, (.bipush 16, []), 0), (31, (.isub, []), 0), (32, (.aload_n 0, []), 0), (33, (.getfield 342, [(11, 66)]), 160), (36, (.lastore, []), 0), (37, (.aload_n 0, []), 0), (38, (.iload_n 2, []), 0), (39, (.aload_n 0, []), 0), (40, (.getfield 51, [(11, 23)]), 125), (43, (.iload_n 2, []), 0), (44, (.iaload, []), 0), (45, (.invokevirtual 364, [(0, 2), (11, 169)]), 192), (48, (.iconst 0, []), 0), (49, (.ireturn, []), 0)]
def mi_166 : rf_E1 := (mt_166, 17, cd_166)
def mt_167 : rf_Mt := (⟨"MemoryTransactionsModel", "around", "(II)I"⟩, prog_14_method_39_code, 5, (Option.some Jvm.ClassFile.FieldType.int))
def cd_167 : List (Nat × rf_I × Nat) := [(0, (.iload_n 1, []), 0), (1, (.istore_n 3, []), 0), (2, (.iload_n 3, []), 0), (3, (.ifCond .lt 45, [(0, 48)]), 0), (6, (.aload_n 0, []), 0), (7, (.getfield 39, [(11, 19)]), 122), (10, (.iload_n 3, []), 0), (11, (.iaload, []), 0), (12, (.istore 4, []), 0), (14, (.iload 4, []), 0), (16, (.ifCond .lt 26, [(0, 42)]), 0), (19, (.aload_n 0, []), 0), (20, (.getfield 33, [(11, 17)]), 112), (23, (.iload 4, []), 0), (25, (.iaload, []), 0), (26, (.iload_n 2, []), 0), (27, (.if_icmp .ne 15, [(0, 42)]), 0), (30, (.aload_n 0, []), 0), (31, (.getfield 42, [(11, 20)]), 123), (34, (.iload_n 3, []), 0), (35, (.iaload, []), 0), (36, (.ifCond .ne 6, [(0, 42)]), 0), (39, (.iload 4, []), 0), (41, (.ireturn, []), 0), (42, (.iload 4, []), 0), (44, (.istore_n 3, []), 0), (45, (.goto (-43), [(0, 2)]), 0), (48, (.iconst (-1), []), 0), (49, (.ireturn, []), 0)]
def mi_167 : rf_E1 := (mt_167, 17, cd_167)
def mt_168 : rf_Mt := (⟨"MemoryTransactionsModel", "bringBack", "(I)V"⟩, prog_14_method_38_code, 3, (Option.none : Option Jvm.ClassFile.FieldType))
def cd_168 : List (Nat × rf_I × Nat) := [(0, (.aload_n 0, []), 0), (1, (.aload_n 0, []), 0), (2, (.getfield 137, [(11, 61)]), 205), (5, (.iload_n 1, []), 0), (6, (.iaload, []), 0), (7, (.putfield 322, [(11, 55)]), 180), (10, (.aload_n 0, []), 0), (11, (.aload_n 0, []), 0), (12, (.getfield 146, [(11, 64)]), 206), (15, (.iload_n 1, []), 0), (16, (.iaload, []), 0), (17, (.putfield 348, [(11, 58)]), 181), (20, (.iconst 0, []), 0), (21, (.istore_n 2, []), 0), (22, (.iload_n 2, []), 0), (23, (.bipush 16, []), 0), (25, (.if_icmp .ge 26, [(0, 51)]), 0), (28, (.aload_n 0, []), 0), (29, (.getfield 128, [(11, 56)]), 189), (32, (.iload_n 2, []), 0), (33, (.aload_n 0, []), 0), (34, (.getfield 140, [(11, 62)]), 207), (37, (.bipush 16, []), 0), (39, (.iload_n 1, []), 0), (40, (.imul, []), 0), (41, (.iload_n 2, []), 0), (42, (.iadd, []), 0), (43, (.laload, []), 0), (44, (.lastore, []), 0), (45, (.iinc 2 1, []), 0), (48, (.goto (-26), [(0, 22)]), 0), (51, (.iconst 0, []), 0), (52, (.istore_n 2, []), 0), (53, (.iload_n 2, []), 0), (54, (.bipush 10, []), 0), (56, (.if_icmp .ge 26, [(0, 82)]), 0), (59, (.aload_n 0, []), 0), (60, (.getfield 131, [(11, 57)]), 182), (63, (.iload_n 2, []), 0), (64, (.aload_n 0, []), 0), (65, (.getfield 143, [(11, 63)]), 208), (68, (.bipush 10, []), 0), (70, (.iload_n 1, []), 0), (71, (.imul, []), 0), (72, (.iload_n 2, []), 0), (73, (.iadd, []), 0), (74, (.laload, []), 0), (75, (.lastore, []), 0), (76, (.iinc 2 1, []), 0), (79, (.goto (-26), [(0, 53)]), 0), (82, (.return_, []), 0)]
def mi_168 : rf_E1 := (mt_168, 17, cd_168)
def mt_169 : rf_Mt := (⟨"MemoryTransactionsModel", "goIn", "(II)V"⟩, prog_14_method_36_code, 3, (Option.none : Option Jvm.ClassFile.FieldType))
def cd_169 : List (Nat × rf_I × Nat) := [(0, (.aload_n 0, []), 0), (1, (.iload_n 2, []), 0), (2, (.ifCond .lt 7, [(0, 9)]), 0), (5, (.iload_n 2, []), 0), (6, (.goto 22, [(0, 28)]), 0), (9, (.aload_n 0, []), 0), (10, (.getfield 33, [(11, 17)]), 112), (13, (.iload_n 1, []), 0), (14, (.iaload, []), 0), (15, (.iconst 2, []), 0), (16, (.if_icmp .ne 7, [(0, 23)]), 0), (19, (.iload_n 1, []), 0), (20, (.goto 8, [(0, 28)]), 0), (23, (.aload_n 0, []), 0), (24, (.iload_n 1, []), 0), (25, (.invokevirtual 354, [(0, 1), (11, 170)]), 191), (28, (.putfield 351, [(11, 60)]), 183), (31, (.return_, []), 0)]
def mi_169 : rf_E1 := (mt_169, 17, cd_169)
def mt_170 : rf_Mt := (⟨"MemoryTransactionsModel", "behind", "(I)I"⟩, prog_14_method_35_code, 3, (Option.some Jvm.ClassFile.FieldType.int))
def cd_170 : List (Nat × rf_I × Nat) := [(0, (.iload_n 1, []), 0), (1, (.istore_n 2, []), 0), (2, (.iload_n 2, []), 0), (3, (.ifCond .lt 35, [(0, 38)]), 0), (6, (.aload_n 0, []), 0), (7, (.getfield 36, [(11, 18)]), 121), (10, (.iload_n 2, []), 0), (11, (.iaload, []), 0), (12, (.ifCond .ge 26, [(0, 38)]), 0), (15, (.aload_n 0, []), 0), (16, (.getfield 39, [(11, 19)]), 122), (19, (.iload_n 2, []), 0), (20, (.iaload, []), 0), (21, (.istore_n 2, []), 0), (22, (.iload_n 2, []), 0), (23, (.ifCond .lt (-21), [(0, 2)]), 0), (26, (.aload_n 0, []), 0), (27, (.getfield 33, [(11, 17)]), 112), (30, (.iload_n 2, []), 0), (31, (.iaload, []), 0), (32, (.iconst 2, []), 0), (33, (.if_icmp .ne (-31), [(0, 2)]), 0), (36, (.iload_n 2, []), 0), (37, (.ireturn, []), 0), (38, (.iload_n 2, []), 0), (39, (.ifCond .ge 7, [(0, 46)]), 0), (42, (.iconst (-1), []), 0), (43, (.goto 9, [(0, 52)]), 0), (46, (.aload_n 0, []), 0), (47, (.getfield 36, [(11, 18)]), 121), (50, (.iload_n 2, []), 0), (51, (.iaload, []), 0), (52, (.ireturn, []), 0)]
def mi_170 : rf_E1 := (mt_170, 17, cd_170)
def mt_171 : rf_Mt := (⟨"MemoryTransactionsModel", "retryFrom", "(I)I"⟩, prog_14_method_42_code, 3, (Option.some Jvm.ClassFile.FieldType.int))
def cd_171 : List (Nat × rf_I × Nat) := [(0, (.aload_n 0, []), 0), (1, (.iload_n 1, []), 0), (2, (.iconst 5, []), 0), (3, (.invokevirtual 373, [(0, 2), (11, 167)]), 203), (6, (.istore_n 2, []), 0), (7, (.iload_n 2, []), 0), (8, (.ifCond .ge 5, [(0, 13)]), 0), (11, (.iconst 3, []), 0), (12, (.ireturn, []), 0), (13, (.aload_n 0, []), 0), (14, (.iload_n 2, []), 0), (15, (.invokevirtual 377, [(0, 1), (11, 168)]), 204), (18, (.aload_n 0, []), 0), (19, (.iload_n 2, []), 0), (20, (.aload_n 0, []), 0), (21, (.getfield 51, [(11, 23)]), 125), (24, (.iload_n 2, []), 0), (25, (.iaload, []), 0), (26, (.invokevirtual 364, [(0, 2), (11, 169)]), 192), (29, (.iconst 0, []), 0), (30, (.ireturn, []), 0)]
def mi_171 : rf_E1 := (mt_171, 17, cd_171)
def mt_172 : rf_Mt := (⟨"MemoryTransactionsModel", "keep", "(I)V"⟩, prog_14_method_37_code, 3, (Option.none : Option Jvm.ClassFile.FieldType))
def cd_172 : List (Nat × rf_I × Nat) := [(0, (.aload_n 0, []), 0), (1, (.getfield 137, [(11, 61)]), 205), (4, (.iload_n 1, []), 0), (5, (.aload_n 0, []), 0), (6, (.getfield 322, [(11, 55)]), 190), (9, (.iastore, []), 0), (10, (.aload_n 0, []), 0), (11, (.getfield 146, [(11, 64)]), 206), (14, (.iload_n 1, []), 0), (15, (.aload_n 0, []), 0), (16, (.getfield 348, [(11, 58)]), 195), (19, (.iastore, []), 0), (20, (.iconst 0, []), 0), (21, (.istore_n 2, []), 0), (22, (.iload_n 2, []), 0), (23, (.bipush 16, []), 0), (25, (.if_icmp .ge 26, [(0, 51)]), 0), (28, (.aload_n 0, []), 0), (29, (.getfield 140, [(11, 62)]), 207), (32, (.bipush 16, []), 0), (34, (.iload_n 1, []), 0), (35, (.imul, []), 0), (36, (.iload_n 2, []), 0), (37, (.iadd, []), 0), (38, (.aload_n 0, []), 0), (39, (.getfield 128, [(11, 56)]), 189), (42, (.iload_n 2, []), 0), (43, (.laload, []), 0), (44, (.lastore, []), 0), (45, (.iinc 2 1, []), 0), (48, (.goto (-26), [(0, 22)]), 0), (51, (.iconst 0, []), 0), (52, (.istore_n 2, []), 0), (53, (.iload_n 2, []), 0), (54, (.bipush 10, []), 0), (56, (.if_icmp .ge 26, [(0, 82)]), 0), (59, (.aload_n 0, []), 0), (60, (.getfield 143, [(11, 63)]), 208), (63, (.bipush 10, []), 0), (65, (.iload_n 1, []), 0), (66, (.imul, []), 0), (67, (.iload_n 2, []), 0), (68, (.iadd, []), 0), (69, (.aload_n 0, []), 0), (70, (.getfield 131, [(11, 57)]), 182), (73, (.iload_n 2, []), 0), (74, (.laload, []), 0), (75, (.lastore, []), 0), (76, (.iinc 2 1, []), 0), (79, (.goto (-26), [(0, 53)]), 0), (82, (.return_, []), 0)]
def mi_172 : rf_E1 := (mt_172, 17, cd_172)
def mt_173 : rf_Mt := (⟨"MemoryTransactionsModel", "keepRead", "(I)V"⟩, prog_14_method_51_code, 3, (Option.none : Option Jvm.ClassFile.FieldType))
def cd_173 : List (Nat × rf_I × Nat) := [(0, (.aload_n 0, []), 0), (1, (.getfield 113, [(11, 49)]), 151), (4, (.iload_n 1, []), 0), (5, (.aload_n 0, []), 0), (6, (.getfield 316, [(11, 52)]), 175), (9, (.iastore, []), 0), (10, (.iconst 0, []), 0), (11, (.istore_n 2, []), 0), (12, (.iload_n 2, []), 0), (13, (.bipush 16, []), 0), (15, (.if_icmp .ge 43, [(0, 58)]), 0), (18, (.aload_n 0, []), 0), (19, (.getfield 116, [(11, 50)]), 172), (22, (.bipush 16, []), 0), (24, (.iload_n 1, []), 0), (25, (.imul, []), 0), (26, (.iload_n 2, []), 0), (27, (.iadd, []), 0), (28, (.aload_n 0, []), 0), (29, (.getfield 122, [(11, 53)]), 171), (32, (.iload_n 2, []), 0), (33, (.laload, []), 0), (34, (.lastore, []), 0), (35, (.aload_n 0, []), 0), (36, (.getfield 119, [(11, 51)]), 174), (39, (.bipush 16, []), 0), (41, (.iload_n 1, []), 0), (42, (.imul, []), 0), (43, (.iload_n 2, []), 0), (44, (.iadd, []), 0), (45, (.aload_n 0, []), 0), (46, (.getfield 125, [(11, 54)]), 173), (49, (.iload_n 2, []), 0), (50, (.iaload, []), 0), (51, (.iastore, []), 0), (52, (.iinc 2 1, []), 0), (55, (.goto (-43), [(0, 12)]), 0), (58, (.return_, []), 0)]
def mi_173 : rf_E1 := (mt_173, 17, cd_173)
def mt_174 : rf_Mt := (⟨"MemoryTransactionsModel", "cutRun", "(I)I"⟩, prog_14_method_54_code, 2, (Option.some Jvm.ClassFile.FieldType.int))
def cd_174 : List (Nat × rf_I × Nat) := [(0, (.aload_n 0, []), 0), (1, (.getfield 101, [(11, 45)]), 146), (4, (.iload_n 1, []), 0), (5, (.iconst 0, []), 0), (6, (.iastore, []), 0), (7, (.aload_n 0, []), 0), (8, (.getfield 104, [(11, 46)]), 150), (11, (.iload_n 1, []), 0), (12, (.iconst 0, []), 0), (13, (.iastore, []), 0), (14, (.aload_n 0, []), 0), (15, (.getfield 113, [(11, 49)]), 151), (18, (.iload_n 1, []), 0), (19, (.iconst 0, []), 0), (20, (.iastore, []), 0), (21, (.aload_n 0, []), 0), (22, (.getfield 107, [(11, 47)]), 167), (25, (.iload_n 1, []), 0), (26, (.dup2, []), 0), (27, (.iaload, []), 0), (28, (.iconst 1, []), 0), (29, (.iadd, []), 0), (30, (.iastore, []), 0), (31, (.aload_n 0, []), 0), (32, (.getfield 110, [(11, 48)]), 158), (35, (.iload_n 1, []), 0), (36, (.aload_n 0, []), 0), (37, (.getfield 110, [(11, 48)]), 158), (40, (.iload_n 1, []), 0), (41, (.baload, []), 0), (42, (.ifCond .ne 13, [(0, 55)]), 0), (45, (.aload_n 0, []), 0), (46, (.getfield 107, [(11, 47)]), 167), (49, (.iload_n 1, []), 0), (50, (.iaload, []), 0), (51, (.iconst 4, []), 0), (52, (.if_icmp .lt 7, [(0, 59)]), 0), (55, (.iconst 1, []), 0), (56, (.goto 4, [(0, 60)]), 0), (59, (.iconst 0, []), 0), (60, (.bastore, []), 0), (61, (.iconst 3, []), 0), (62, (.ireturn, []), 0)]
def mi_174 : rf_E1 := (mt_174, 17, cd_174)
def mt_175 : rf_Mt := (⟨"MemoryTransactionsModel", "isHeld", "(I)Z"⟩, prog_14_method_53_code, 4, (Option.some Jvm.ClassFile.FieldType.boolean))
def cd_175 : List (Nat × rf_I × Nat) := [(0, (.iconst 0, []), 0), (1, (.istore_n 2, []), 0), (2, (.iconst 0, []), 0), (3, (.istore_n 3, []), 0), (4, (.iload_n 3, []), 0), (5, (.bipush 8, []), 0), (7, (.if_icmp .ge 33, [(0, 40)]), 0), (10, (.iload_n 2, []), 0), (11, (.ifCond .ne 17, [(0, 28)]), 0), (14, (.iload_n 3, []), 0), (15, (.iload_n 1, []), 0), (16, (.if_icmp .eq 16, [(0, 32)]), 0), (19, (.aload_n 0, []), 0), (20, (.getfield 110, [(11, 48)]), 158), (23, (.iload_n 3, []), 0), (24, (.baload, []), 0), (25, (.ifCond .eq 7, [(0, 32)]), 0), (28, (.iconst 1, []), 0), (29, (.goto 4, [(0, 33)]), 0), (32, (.iconst 0, []), 0), (33, (.istore_n 2, []), 0), (34, (.iinc 3 1, []), 0), (37, (.goto (-33), [(0, 4)]), 0), (40, (.iload_n 2, []), 0), (41, (.ifCond .eq 16, [(0, 57)]), 0), (44, (.aload_n 0, []), 0), (45, (.getfield 110, [(11, 48)]), 158), (48, (.iload_n 1, []), 0), (49, (.baload, []), 0), (50, (.ifCond .ne 7, [(0, 57)]), 0), (53, (.iconst 1, []), 0), (54, (.goto 4, [(0, 58)]), 0), (57, (.iconst 0, []), 0), (58, (.ireturn, []), 0)]
def mi_175 : rf_E1 := (mt_175, 17, cd_175)
def mt_176 : rf_Mt := (⟨"MemoryTransactionsModel", "endThrown", "(IJ)I"⟩, prog_14_method_56_code, 4, (Option.some Jvm.ClassFile.FieldType.int))
def cd_176 : List (Nat × rf_I × Nat) := [(0, (.aload_n 0, []), 0), (1, (.getfield 386, [(11, 69)]), 164), (4, (.sipush 300, []), 0), (7, (.if_icmp .ne 5, [(0, 12)]), 0), (10, (.iconst (-1), []), 0), (11, (.ireturn, []), 0), (12, (.aload_n 0, []), 0), (13, (.iconst 2, []), 0), (14, (.iload_n 1, []), 0), (15, (.aload_n 0, []), 0), (16, (.iload_n 1, []), 0), (17, (.invokevirtual 392, [(0, 1), (11, 160)]), 166), (20, (.aload_n 0, []), 0), (21, (.getfield 104, [(11, 46)]), 150), (24, (.iload_n 1, []), 0), (25, (.iaload, []), 0), (26, (.iconst 1, []), 0), (27, (.iadd, []), 0), (28, (.aload_n 0, []), 0), (29, (.getfield 107, [(11, 47)]), 167), (32, (.iload_n 1, []), 0), (33, (.iaload, []), 0), (34, (.lload_n 2, []), 0), (35, (.invokevirtual 398, [(0, 6), (11, 177)]), 168), (38, (.aload_n 0, []), 0), (39, (.iload_n 1, []), 0), (40, (.invokevirtual 402, [(0, 1), (11, 178)]), 169), (43, (.iconst 2, []), 0), (44, (.ireturn, []), 0)]
def mi_176 : rf_E1 := (mt_176, 17, cd_176)
def mt_177 : rf_Mt := (⟨"MemoryTransactionsModel", "addRow", "(IIIIIJ)V"⟩, prog_14_method_47_code, 8, (Option.none : Option Jvm.ClassFile.FieldType))
def cd_177 : List (Nat × rf_I × Nat) := [(0, (.aload_n 0, []), 0), (1, (.getfield 155, [(11, 70)]), 209), (4, (.aload_n 0, []), 0), (5, (.getfield 386, [(11, 69)]), 164), (8, (.iload_n 1, []), 0), (9, (.iastore, []), 0), (10, (.aload_n 0, []), 0), (11, (.getfield 158, [(11, 71)]), 210), (14, (.aload_n 0, []), 0), (15, (.getfield 386, [(11, 69)]), 164), (18, (.iload_n 2, []), 0), (19, (.iastore, []), 0), (20, (.aload_n 0, []), 0), (21, (.getfield 161, [(11, 72)]), 211), (24, (.aload_n 0, []), 0), (25, (.getfield 386, [(11, 69)]), 164), (28, (.iload_n 3, []), 0), (29, (.iastore, []), 0), (30, (.aload_n 0, []), 0), (31, (.getfield 164, [(11, 73)]), 212), (34, (.aload_n 0, []), 0), (35, (.getfield 386, [(11, 69)]), 164), (38, (.iload 4, []), 0), (40, (.iastore, []), 0), (41, (.aload_n 0, []), 0), (42, (.getfield 167, [(11, 74)]), 213), (45, (.aload_n 0, []), 0), (46, (.getfield 386, [(11, 69)]), 164), (49, (.iload 5, []), 0), (51, (.iastore, []), 0), (52, (.aload_n 0, []), 0), (53, (.getfield 170, [(11, 75)]), 214), (56, (.aload_n 0, []), 0), (57, (.getfield 386, [(11, 69)]), 164), (60, (.lload 6, []), 0), (62, (.lastore, []), 0), (63, (.aload_n 0, []), 0), (64, (.dup, []), 0), (65, (.getfield 386, [(11, 69)]), 164), (68, (.iconst 1, []), 0), (69, (.iadd, []), 0), (70, (.putfield 386, [(11, 69)]), 215), (73, (.return_, []), 0)]
def mi_177 : rf_E1 := (mt_177, 17, cd_177)
def mt_178 : rf_Mt := (⟨"MemoryTransactionsModel", "over", "(I)V"⟩, prog_14_method_55_code, 3, (Option.none : Option Jvm.ClassFile.FieldType))
def cd_178 : List (Nat × rf_I × Nat) := [(0, (.aload_n 0, []), 0), (1, (.getfield 101, [(11, 45)]), 146), (4, (.iload_n 1, []), 0), (5, (.iconst 0, []), 0), (6, (.iastore, []), 0), (7, (.aload_n 0, []), 0), (8, (.getfield 104, [(11, 46)]), 150), (11, (.iload_n 1, []), 0), (12, (.iconst 0, []), 0), (13, (.iastore, []), 0), (14, (.aload_n 0, []), 0), (15, (.getfield 113, [(11, 49)]), 151), (18, (.iload_n 1, []), 0), (19, (.iconst 0, []), 0), (20, (.iastore, []), 0), (21, (.aload_n 0, []), 0), (22, (.getfield 107, [(11, 47)]), 167), (25, (.iload_n 1, []), 0), (26, (.iconst 0, []), 0), (27, (.iastore, []), 0), (28, (.aload_n 0, []), 0), (29, (.getfield 110, [(11, 48)]), 158), (32, (.iload_n 1, []), 0), (33, (.iconst 0, []), 0), (34, (.bastore, []), 0), (35, (.aload_n 0, []), 0), (36, (.getfield 98, [(11, 44)]), 145), (39, (.iload_n 1, []), 0), (40, (.dup2, []), 0), (41, (.iaload, []), 0), (42, (.iconst 1, []), 0), (43, (.isub, []), 0), (44, (.iastore, []), 0), (45, (.iconst 0, []), 0), (46, (.istore_n 2, []), 0), (47, (.iload_n 2, []), 0), (48, (.aload_n 0, []), 0), (49, (.getfield 98, [(11, 44)]), 145), (52, (.iload_n 1, []), 0), (53, (.iaload, []), 0), (54, (.if_icmp .ge 33, [(0, 87)]), 0), (57, (.aload_n 0, []), 0), (58, (.getfield 95, [(11, 43)]), 179), (61, (.bipush 16, []), 0), (63, (.iload_n 1, []), 0), (64, (.imul, []), 0), (65, (.iload_n 2, []), 0), (66, (.iadd, []), 0), (67, (.aload_n 0, []), 0), (68, (.getfield 95, [(11, 43)]), 179), (71, (.bipush 16, []), 0), (73, (.iload_n 1, []), 0), (74, (.imul, []), 0), (75, (.iload_n 2, []), 0), (76, (.iadd, []), 0), (77, (.iconst 1, []), 0), (78, (.iadd, []), 0), (79, (.iaload, []), 0), (80, (.iastore, []), 0), (81, (.iinc 2 1, []), 0), (84, (.goto (-37), [(0, 47)]), 0), (87, (.return_, []), 0)]
def mi_178 : rf_E1 := (mt_178, 17, cd_178)
def mt_179 : rf_Mt := (⟨"MemoryTransactionsModel", "isWell", "()Z"⟩, prog_14_method_45_code, 3, (Option.some Jvm.ClassFile.FieldType.boolean))
def cd_179 : List (Nat × rf_I × Nat) := [(0, (.iconst 0, []), 0), (1, (.istore_n 1, []), 0), (2, (.iload_n 1, []), 0), (3, (.bipush 16, []), 0), (5, (.if_icmp .ge 50, [(0, 55)]), 0), (8, (.aload_n 0, []), 0), (9, (.getfield 152, [(11, 68)]), 198), (12, (.iload_n 1, []), 0), (13, (.aload_n 0, []), 0), (14, (.getfield 322, [(11, 55)]), 190), (17, (.iload_n 1, []), 0), (18, (.ishr, []), 0), (19, (.iconst 1, []), 0), (20, (.iand, []), 0), (21, (.iconst 1, []), 0), (22, (.if_icmp .ne 12, [(0, 34)]), 0), (25, (.aload_n 0, []), 0), (26, (.getfield 128, [(11, 56)]), 189), (29, (.iload_n 1, []), 0), (30, (.laload, []), 0), (31, (.goto 17, [(0, 48)]), 0), (34, (.aload_n 0, []), 0), (35, (.getfield 83, [(11, 38)]), 201), (38, (.bipush 16, []), 0), (40, (.aload_n 0, []), 0), (41, (.getfield 319, [(11, 42)]), 177), (44, (.imul, []), 0), (45, (.iload_n 1, []), 0), (46, (.iadd, []), 0), (47, (.laload, []), 0), (48, (.lastore, []), 0), (49, (.iinc 1 1, []), 0), (52, (.goto (-50), [(0, 2)]), 0), (55, (.aload_n 0, []), 0), (56, (.invokevirtual 383, [(0, 0), (11, 180)]), 216), (59, (.istore_n 1, []), 0), (60, (.iconst 0, []), 0), (61, (.istore_n 2, []), 0), (62, (.iload_n 2, []), 0), (63, (.aload_n 0, []), 0), (64, (.getfield 348, [(11, 58)]), 195), (67, (.if_icmp .ge 24, [(0, 91)]), 0), (70, (.iload_n 1, []), 0), (71, (.ifCond .eq 20, [(0, 91)]), 0), (74, (.aload_n 0, []), 0), (75, (.aload_n 0, []), 0), (76, (.getfield 134, [(11, 59)]), 194), (79, (.iload_n 2, []), 0), (80, (.iaload, []), 0), (81, (.invokevirtual 380, [(0, 1), (11, 181)]), 217), (84, (.istore_n 1, []), 0), (85, (.iinc 2 1, []), 0), (88, (.goto (-26), [(0, 62)]), 0), (91, (.iload_n 1, []), 0), (92, (.ifCond .eq 26, [(0, 118)]), 0), (95, (.aload_n 0, []), 0), (96, (.getfield 89, [(11, 40)]), 218), (99, (.aload_n 0, []), 0), (100, (.getfield 319, [(11, 42)]), 177), (103, (.iaload, []), 0), (104, (.aload_n 0, []), 0), (105, (.getfield 348, [(11, 58)]), 195), (108, (.iadd, []), 0), (109, (.bipush 32, []), 0), (111, (.if_icmp .gt 7, [(0, 118)]), 0), (114, (.iconst 1, []), 0), (115, (.goto 4, [(0, 119)]), 0), (118, (.iconst 0, []), 0), (119, (.ireturn, []), 0)]
def mi_179 : rf_E1 := (mt_179, 17, cd_179)
def mt_180 : rf_Mt := (⟨"MemoryTransactionsModel", "rulesHold", "()Z"⟩, prog_14_method_44_code, 3, (Option.some Jvm.ClassFile.FieldType.boolean))
def cd_180 : List (Nat × rf_I × Nat) := [(0, (.iconst 1, []), 0), (1, (.istore_n 1, []), 0), (2, (.iconst 0, []), 0), (3, (.istore_n 2, []), 0), (4, (.iload_n 2, []), 0), (5, (.aload_n 0, []), 0), (6, (.getfield 89, [(11, 40)]), 218), (9, (.aload_n 0, []), 0), (10, (.getfield 319, [(11, 42)]), 177), (13, (.iaload, []), 0), (14, (.if_icmp .ge 32, [(0, 46)]), 0), (17, (.iload_n 1, []), 0), (18, (.ifCond .eq 28, [(0, 46)]), 0), (21, (.aload_n 0, []), 0), (22, (.aload_n 0, []), 0), (23, (.getfield 92, [(11, 41)]), 219), (26, (.bipush 32, []), 0), (28, (.aload_n 0, []), 0), (29, (.getfield 319, [(11, 42)]), 177), (32, (.imul, []), 0), (33, (.iload_n 2, []), 0), (34, (.iadd, []), 0), (35, (.iaload, []), 0), (36, (.invokevirtual 380, [(0, 1), (11, 181)]), 217), (39, (.istore_n 1, []), 0), (40, (.iinc 2 1, []), 0), (43, (.goto (-39), [(0, 4)]), 0), (46, (.iload_n 1, []), 0), (47, (.ireturn, []), 0)]
def mi_180 : rf_E1 := (mt_180, 17, cd_180)
def mt_181 : rf_Mt := (⟨"MemoryTransactionsModel", "holds", "(I)Z"⟩, prog_14_method_43_code, 4, (Option.some Jvm.ClassFile.FieldType.boolean))
def cd_181 : List (Nat × rf_I × Nat) := [(0, (.aload_n 0, []), 0), (1, (.iconst 0, []), 0), (2, (.putfield 329, [(11, 65)]), 185), (5, (.aload_n 0, []), 0), (6, (.iload_n 1, []), 0), (7, (.iconst 1, []), 0), (8, (.invokevirtual 357, [(0, 2), (11, 163)]), 186), (11, (.lstore_n 2, []), 0), (12, (.aload_n 0, []), 0), (13, (.getfield 329, [(11, 65)]), 187), (16, (.ifCond .ne 13, [(0, 29)]), 0), (19, (.lload_n 2, []), 0), (20, (.lconst 0, []), 0), (21, (.lcmp, []), 0), (22, (.ifCond .eq 7, [(0, 29)]), 0), (25, (.iconst 1, []), 0), (26, (.goto 4, [(0, 30)]), 0), (29, (.iconst 0, []), 0), (30, (.ireturn, []), 0)]
def mi_181 : rf_E1 := (mt_181, 17, cd_181)
def mt_182 : rf_Mt := (⟨"MemoryTransactionsModel", "bringIn", "()V"⟩, prog_14_method_46_code, 2, (Option.none : Option Jvm.ClassFile.FieldType))
def cd_182 : List (Nat × rf_I × Nat) := [(0, (.iconst 0, []), 0), (1, (.istore_n 1, []), 0), (2, (.iload_n 1, []), 0), (3, (.bipush 16, []), 0), (5, (.if_icmp .ge 59, [(0, 64)]), 0), (8, (.aload_n 0, []), 0), (9, (.getfield 322, [(11, 55)]), 190), (12, (.iload_n 1, []), 0), (13, (.ishr, []), 0), (14, (.iconst 1, []), 0), (15, (.iand, []), 0), (16, (.iconst 1, []), 0), (17, (.if_icmp .ne 41, [(0, 58)]), 0), (20, (.aload_n 0, []), 0), (21, (.getfield 83, [(11, 38)]), 201), (24, (.bipush 16, []), 0), (26, (.aload_n 0, []), 0), (27, (.getfield 319, [(11, 42)]), 177), (30, (.imul, []), 0), (31, (.iload_n 1, []), 0), (32, (.iadd, []), 0), (33, (.aload_n 0, []), 0), (34, (.getfield 128, [(11, 56)]), 189), (37, (.iload_n 1, []), 0), (38, (.laload, []), 0), (39, (.lastore, []), 0), (40, (.aload_n 0, []), 0), (41, (.getfield 86, [(11, 39)]), 176), (44, (.bipush 16, []), 0), (46, (.aload_n 0, []), 0), (47, (.getfield 319, [(11, 42)]), 177), (50, (.imul, []), 0), (51, (.iload_n 1, []), 0), (52, (.iadd, []), 0), (53, (.dup2, []), 0), (54, (.iaload, []), 0), (55, (.iconst 1, []), 0), (56, (.iadd, []), 0), (57, (.iastore, []), 0), (58, (.iinc 1 1, []), 0), (61, (.goto (-59), [(0, 2)]), 0), (64, (.iconst 0, []), 0), (65, (.istore_n 1, []), 0), (66, (.iload_n 1, []), 0), (67, (.aload_n 0, []), 0), (68, (.getfield 348, [(11, 58)]), 195), (71, (.if_icmp .ge 50, [(0, 121)]), 0), (74, (.aload_n 0, []), 0), (75, (.getfield 92, [(11, 41)]), 219), (78, (.bipush 32, []), 0), (80, (.aload_n 0, []), 0), (81, (.getfield 319, [(11, 42)]), 177), (84, (.imul, []), 0), (85, (.aload_n 0, []), 0), (86, (.getfield 89, [(11, 40)]), 218), (89, (.aload_n 0, []), 0), (90, (.getfield 319, [(11, 42)]), 177), (93, (.iaload, []), 0), (94, (.iadd, []), 0), (95, (.aload_n 0, []), 0), (96, (.getfield 134, [(11, 59)]), 194), (99, (.iload_n 1, []), 0), (100, (.iaload, []), 0), (101, (.iastore, []), 0), (102, (.aload_n 0, []), 0), (103, (.getfield 89, [(11, 40)]), 218), (106, (.aload_n 0, []), 0), (107, (.getfield 319, [(11, 42)]), 177), (110, (.dup2, []), 0), (111, (.iaload, []), 0), (112, (.iconst 1, []), 0), (113, (.iadd, []), 0), (114, (.iastore, []), 0), (115, (.iinc 1 1, []), 0), (118, (.goto (-52), [(0, 66)]), 0), (121, (.return_, []), 0)]
def mi_182 : rf_E1 := (mt_182, 17, cd_182)
def mt_183 : rf_Mt := (⟨"MemoryTransactionsModel", "play", "(JI)I"⟩, prog_14_method_59_code, 8, (Option.some Jvm.ClassFile.FieldType.int))
def cd_183 : List (Nat × rf_I × Nat) := [(0, (.aload_n 0, []), 0), (1, (.iconst 0, []), 0), (2, (.putfield 173, [(11, 0)]), 58), (5, (.iload_n 3, []), 0), (6, (.ifCond .lt 10, [(0, 16)]), 0), (9, (.iload_n 3, []), 0), (10, (.sipush 2000, []), 0), (13, (.if_icmp .le 5, [(0, 18)]), 0), (16, (.iconst (-1), []), 0), (17, (.ireturn, []), 0), (18, (.lload_n 1, []), 0), (19, (.lstore 4, []), 0), (21, (.iconst 0, []), 0), (22, (.istore 6, []), 0), (24, (.iconst 0, []), 0), (25, (.istore 7, []), 0), (27, (.iload 7, []), 0), (29, (.iload_n 3, []), 0), (30, (.if_icmp .ge 45, [(0, 75)]), 0), (33, (.lload 4, []), 0), (35, (.ldc2_w 437, [(1, 6364136223846793005)]), 220), (38, (.lmul, []), 0), (39, (.ldc2_w 439, [(1, 1442695040888963407)]), 221), (42, (.ladd, []), 0), (43, (.lstore 4, []), 0), (45, (.iload 6, []), 0), (47, (.aload_n 0, []), 0), (48, (.lload 4, []), 0), (50, (.bipush 61, []), 0), (52, (.lushr, []), 0), (53, (.l2i, []), 0), (54, (.invokevirtual 434, [(0, 1), (11, 156)]), 144), (57, (.iconst 1, []), 0), (58, (.if_icmp .ne 7, [(0, 65)]), 0), (61, (.iconst 1, []), 0), (62, (.goto 4, [(0, 66)]), 0), (65, (.iconst 0, []), 0), (66, (.iadd, []), 0), (67, (.istore 6, []), 0), (69, (.iinc 7 1, []), 0), (72, (.goto (-45), [(0, 27)]), 0), (75, (.iload 6, []), 0), (77, (.ireturn, []), 0)]
def mi_183 : rf_E1 := (mt_183, 17, cd_183)
def mt_184 : rf_Mt := (⟨"MemoryTransactionsModel", "put", "(IJ)I"⟩, prog_14_method_60_code, 5, (Option.some Jvm.ClassFile.FieldType.int))
def cd_184 : List (Nat × rf_I × Nat) := [(0, (.aload_n 0, []), 0), (1, (.iconst 0, []), 0), (2, (.putfield 173, [(11, 0)]), 58), (5, (.iload_n 1, []), 0), (6, (.ifCond .lt 19, [(0, 25)]), 0), (9, (.iload_n 1, []), 0), (10, (.bipush 16, []), 0), (12, (.if_icmp .ge 13, [(0, 25)]), 0), (15, (.aload_n 0, []), 0), (16, (.getfield 386, [(11, 69)]), 164), (19, (.sipush 300, []), 0), (22, (.if_icmp .ne 5, [(0, 27)]), 0), (25, (.iconst (-1), []), 0), (26, (.ireturn, []), 0), (27, (.aload_n 0, []), 0), (28, (.iconst 0, []), 0), (29, (.putfield 319, [(11, 42)]), 147), (32, (.iconst 0, []), 0), (33, (.istore 4, []), 0), (35, (.iload 4, []), 0), (37, (.bipush 16, []), 0), (39, (.if_icmp .ge 33, [(0, 72)]), 0), (42, (.aload_n 0, []), 0), (43, (.getfield 152, [(11, 68)]), 198), (46, (.iload 4, []), 0), (48, (.iload 4, []), 0), (50, (.iload_n 1, []), 0), (51, (.if_icmp .ne 7, [(0, 58)]), 0), (54, (.lload_n 2, []), 0), (55, (.goto 10, [(0, 65)]), 0), (58, (.aload_n 0, []), 0), (59, (.getfield 83, [(11, 38)]), 201), (62, (.iload 4, []), 0), (64, (.laload, []), 0), (65, (.lastore, []), 0), (66, (.iinc 4 1, []), 0), (69, (.goto (-34), [(0, 35)]), 0), (72, (.aload_n 0, []), 0), (73, (.invokevirtual 383, [(0, 0), (11, 180)]), 216), (76, (.ifCond .ne 6, [(0, 82)]), 0), (79, (.bipush (-2), []), 0), (81, (.ireturn, []), 0), (82, (.aload_n 0, []), 0), (83, (.getfield 83, [(11, 38)]), 201), (86, (.iload_n 1, []), 0), (87, (.lload_n 2, []), 0), (88, (.lastore, []), 0), (89, (.aload_n 0, []), 0), (90, (.getfield 86, [(11, 39)]), 176), (93, (.iload_n 1, []), 0), (94, (.dup2, []), 0), (95, (.iaload, []), 0), (96, (.iconst 1, []), 0), (97, (.iadd, []), 0), (98, (.iastore, []), 0), (99, (.aload_n 0, []), 0), (100, (.iconst 0, []), 0), (101, (.iconst (-1), []), 0), (102, (.iload_n 1, []), 0), (103, (.iconst 0, []), 0), (104, (.iconst 0, []), 0), (105, (.lload_n 2, []), 0), (106, (.invokevirtual 398, [(0, 6), (11, 177)]), 168), (109, (.aload_n 0, []), 0), (110, (.getfield 86, [(11, 39)]), 176), (113, (.iload_n 1, []), 0), (114, (.iaload, []), 0), (115, (.ireturn, []), 0)]
def mi_184 : rf_E1 := (mt_184, 17, cd_184)
def mt_185 : rf_Mt := (⟨"MemoryTransactionsModel", "cell", "(I)J"⟩, prog_14_method_61_code, 2, (Option.some Jvm.ClassFile.FieldType.long))
def cd_185 : List (Nat × rf_I × Nat) := [(0, (.aload_n 0, []), 0), (1, (.iconst 0, []), 0), (2, (.putfield 173, [(11, 0)]), 58), (5, (.iload_n 1, []), 0), (6, (.ifCond .lt 9, [(0, 15)]), 0), (9, (.iload_n 1, []), 0), (10, (.bipush 16, []), 0), (12, (.if_icmp .lt 7, [(0, 19)]), 0), (15, (.lconst 0, []), 0), (16, (.goto 9, [(0, 25)]), 0), (19, (.aload_n 0, []), 0), (20, (.getfield 83, [(11, 38)]), 201), (23, (.iload_n 1, []), 0), (24, (.laload, []), 0), (25, (.lreturn, []), 0)]
def mi_185 : rf_E1 := (mt_185, 17, cd_185)
def mt_186 : rf_Mt := (⟨"MemoryTransactionsModel", "version", "(I)I"⟩, prog_14_method_62_code, 2, (Option.some Jvm.ClassFile.FieldType.int))
def cd_186 : List (Nat × rf_I × Nat) := [(0, (.aload_n 0, []), 0), (1, (.iconst 0, []), 0), (2, (.putfield 173, [(11, 0)]), 58), (5, (.iload_n 1, []), 0), (6, (.ifCond .lt 9, [(0, 15)]), 0), (9, (.iload_n 1, []), 0), (10, (.bipush 16, []), 0), (12, (.if_icmp .lt 7, [(0, 19)]), 0), (15, (.iconst (-1), []), 0), (16, (.goto 9, [(0, 25)]), 0), (19, (.aload_n 0, []), 0), (20, (.getfield 86, [(11, 39)]), 176), (23, (.iload_n 1, []), 0), (24, (.iaload, []), 0), (25, (.ireturn, []), 0)]
def mi_186 : rf_E1 := (mt_186, 17, cd_186)
def mt_187 : rf_Mt := (⟨"MemoryTransactionsModel", "add", "(II)I"⟩, prog_14_method_63_code, 3, (Option.some Jvm.ClassFile.FieldType.int))
def cd_187 : List (Nat × rf_I × Nat) := [(0, (.aload_n 0, []), 0), (1, (.iconst 0, []), 0), (2, (.putfield 173, [(11, 0)]), 58), (5, (.aload_n 0, []), 0), (6, (.iload_n 1, []), 0), (7, (.invokevirtual 431, [(0, 1), (11, 155)]), 143), (10, (.ifCond .eq 26, [(0, 36)]), 0), (13, (.iload_n 2, []), 0), (14, (.ifCond .lt 22, [(0, 36)]), 0), (17, (.iload_n 2, []), 0), (18, (.aload_n 0, []), 0), (19, (.getfield 310, [(11, 11)]), 62), (22, (.if_icmp .ge 14, [(0, 36)]), 0), (25, (.aload_n 0, []), 0), (26, (.getfield 98, [(11, 44)]), 145), (29, (.iload_n 1, []), 0), (30, (.iaload, []), 0), (31, (.bipush 16, []), 0), (33, (.if_icmp .ne 5, [(0, 38)]), 0), (36, (.iconst (-1), []), 0), (37, (.ireturn, []), 0), (38, (.aload_n 0, []), 0), (39, (.getfield 95, [(11, 43)]), 179), (42, (.bipush 16, []), 0), (44, (.iload_n 1, []), 0), (45, (.imul, []), 0), (46, (.aload_n 0, []), 0), (47, (.getfield 98, [(11, 44)]), 145), (50, (.iload_n 1, []), 0), (51, (.iaload, []), 0), (52, (.iadd, []), 0), (53, (.iload_n 2, []), 0), (54, (.iastore, []), 0), (55, (.aload_n 0, []), 0), (56, (.getfield 98, [(11, 44)]), 145), (59, (.iload_n 1, []), 0), (60, (.dup2, []), 0), (61, (.iaload, []), 0), (62, (.iconst 1, []), 0), (63, (.iadd, []), 0), (64, (.iastore, []), 0), (65, (.aload_n 0, []), 0), (66, (.getfield 98, [(11, 44)]), 145), (69, (.iload_n 1, []), 0), (70, (.iaload, []), 0), (71, (.ireturn, []), 0)]
def mi_187 : rf_E1 := (mt_187, 17, cd_187)
def mt_188 : rf_Mt := (⟨"MemoryTransactionsModel", "client", "(II)I"⟩, prog_14_method_64_code, 5, (Option.some Jvm.ClassFile.FieldType.int))
def cd_188 : List (Nat × rf_I × Nat) := [(0, (.aload_n 0, []), 0), (1, (.iconst 0, []), 0), (2, (.putfield 173, [(11, 0)]), 58), (5, (.aload_n 0, []), 0), (6, (.iload_n 1, []), 0), (7, (.invokevirtual 431, [(0, 1), (11, 155)]), 143), (10, (.ifCond .eq 13, [(0, 23)]), 0), (13, (.iload_n 2, []), 0), (14, (.ifCond .lt 9, [(0, 23)]), 0), (17, (.iload_n 2, []), 0), (18, (.bipush 8, []), 0), (20, (.if_icmp .le 5, [(0, 25)]), 0), (23, (.iconst (-1), []), 0), (24, (.ireturn, []), 0), (25, (.aload_n 0, []), 0), (26, (.getfield 98, [(11, 44)]), 145), (29, (.iload_n 1, []), 0), (30, (.iaload, []), 0), (31, (.ifCond .ne 7, [(0, 38)]), 0), (34, (.iconst 1, []), 0), (35, (.goto 4, [(0, 39)]), 0), (38, (.iconst 0, []), 0), (39, (.istore_n 3, []), 0), (40, (.iload_n 3, []), 0), (41, (.ifCond .ne 17, [(0, 58)]), 0), (44, (.aload_n 0, []), 0), (45, (.getfield 101, [(11, 45)]), 146), (48, (.iload_n 1, []), 0), (49, (.iaload, []), 0), (50, (.iconst 1, []), 0), (51, (.if_icmp .ne 7, [(0, 58)]), 0), (54, (.iconst 1, []), 0), (55, (.goto 4, [(0, 59)]), 0), (58, (.iconst 0, []), 0), (59, (.istore 4, []), 0), (61, (.iload_n 2, []), 0), (62, (.tableswitch 120 0 7 #[46, 63, 70, 84, 91, 98, 120, 105], [(0, 182), (0, 108), (1, 125), (2, 132), (3, 146), (4, 153), (5, 160), (6, 182), (7, 167)]), 0), (108, (.iload_n 3, []), 0), (109, (.ifCond .eq 7, [(0, 116)]), 0), (112, (.iconst 0, []), 0), (113, (.goto 11, [(0, 124)]), 0), (116, (.aload_n 0, []), 0), (117, (.getfield 101, [(11, 45)]), 146), (120, (.iload_n 1, []), 0), (121, (.iaload, []), 0), (122, (.iconst 1, []), 0), (123, (.iadd, []), 0), (124, (.ireturn, []), 0), (125, (.aload_n 0, []), 0), (126, (.getfield 98, [(11, 44)]), 145), (129, (.iload_n 1, []), 0), (130, (.iaload, []), 0), (131, (.ireturn, []), 0), (132, (.iload_n 3, []), 0), (133, (.ifCond .eq 7, [(0, 140)]), 0), (136, (.iconst (-1), []), 0), (137, (.goto 8, [(0, 145)]), 0), (140, (.aload_n 0, []), 0), (141, (.iload_n 1, []), 0), (142, (.invokevirtual 392, [(0, 1), (11, 160)]), 166), (145, (.ireturn, []), 0), (146, (.aload_n 0, []), 0), (147, (.getfield 107, [(11, 47)]), 167), (150, (.iload_n 1, []), 0), (151, (.iaload, []), 0), (152, (.ireturn, []), 0), (153, (.aload_n 0, []), 0), (154, (.getfield 104, [(11, 46)]), 150), (157, (.iload_n 1, []), 0), (158, (.iaload, []), 0), (159, (.ireturn, []), 0), (160, (.aload_n 0, []), 0), (161, (.getfield 113, [(11, 49)]), 151), (164, (.iload_n 1, []), 0), (165, (.iaload, []), 0), (166, (.ireturn, []), 0), (167, (.aload_n 0, []), 0), (168, (.getfield 110, [(11, 48)]), 158), (171, (.iload_n 1, []), 0), (172, (.baload, []), 0), (173, (.ifCond .eq 7, [(0, 180)]), 0), (176, (.iconst 1, []), 0), (177, (.goto 4, [(0, 181)]), 0), (180, (.iconst 0, []), 0), (181, (.ireturn, []), 0), (182, (.iload 4, []), 0), (184, (.ifCond .ne 5, [(0, 189)]), 0), (187, (.iconst 0, []), 0), (188, (.ireturn, []), 0), (189, (.aload_n 0, []), 0), (190, (.iload_n 1, []), 0), (191, (.invokevirtual 405, [(0, 1), (11, 159)]), 152), (194, (.iload_n 2, []), 0), (195, (.bipush 6, []), 0), (197, (.if_icmp .ne 10, [(0, 207)]), 0), (200, (.aload_n 0, []), 0), (201, (.getfield 322, [(11, 55)]), 190), (204, (.goto 7, [(0, 211)]), 0), (207, (.aload_n 0, []), 0), (208, (.getfield 348, [(11, 58)]), 195), (211, (.ireturn, []), 0)]
def mi_188 : rf_E1 := (mt_188, 17, cd_188)
def mt_189 : rf_Mt := (⟨"MemoryTransactionsModel", "sees", "(II)J"⟩, prog_14_method_65_code, 3, (Option.some Jvm.ClassFile.FieldType.long))
def cd_189 : List (Nat × rf_I × Nat) := [(0, (.aload_n 0, []), 0), (1, (.iconst 0, []), 0), (2, (.putfield 173, [(11, 0)]), 58), (5, (.aload_n 0, []), 0), (6, (.iload_n 1, []), 0), (7, (.invokevirtual 431, [(0, 1), (11, 155)]), 143), (10, (.ifCond .eq 13, [(0, 23)]), 0), (13, (.iload_n 2, []), 0), (14, (.ifCond .lt 9, [(0, 23)]), 0), (17, (.iload_n 2, []), 0), (18, (.bipush 25, []), 0), (20, (.if_icmp .le 5, [(0, 25)]), 0), (23, (.lconst 0, []), 0), (24, (.lreturn, []), 0), (25, (.aload_n 0, []), 0), (26, (.getfield 98, [(11, 44)]), 145), (29, (.iload_n 1, []), 0), (30, (.iaload, []), 0), (31, (.ifCond .eq 13, [(0, 44)]), 0), (34, (.aload_n 0, []), 0), (35, (.getfield 101, [(11, 45)]), 146), (38, (.iload_n 1, []), 0), (39, (.iaload, []), 0), (40, (.iconst 1, []), 0), (41, (.if_icmp .eq 20, [(0, 61)]), 0), (44, (.iload_n 2, []), 0), (45, (.bipush 16, []), 0), (47, (.if_icmp .ge 12, [(0, 59)]), 0), (50, (.aload_n 0, []), 0), (51, (.getfield 83, [(11, 38)]), 201), (54, (.iload_n 2, []), 0), (55, (.laload, []), 0), (56, (.goto 4, [(0, 60)]), 0), (59, (.lconst 0, []), 0), (60, (.lreturn, []), 0), (61, (.aload_n 0, []), 0), (62, (.iload_n 1, []), 0), (63, (.invokevirtual 405, [(0, 1), (11, 159)]), 152), (66, (.iload_n 2, []), 0), (67, (.bipush 16, []), 0), (69, (.if_icmp .lt 13, [(0, 82)]), 0), (72, (.aload_n 0, []), 0), (73, (.getfield 131, [(11, 57)]), 182), (76, (.iload_n 2, []), 0), (77, (.bipush 16, []), 0), (79, (.isub, []), 0), (80, (.laload, []), 0), (81, (.lreturn, []), 0), (82, (.aload_n 0, []), 0), (83, (.getfield 322, [(11, 55)]), 190), (86, (.iload_n 2, []), 0), (87, (.ishr, []), 0), (88, (.iconst 1, []), 0), (89, (.iand, []), 0), (90, (.iconst 1, []), 0), (91, (.if_icmp .ne 12, [(0, 103)]), 0), (94, (.aload_n 0, []), 0), (95, (.getfield 128, [(11, 56)]), 189), (98, (.iload_n 2, []), 0), (99, (.laload, []), 0), (100, (.goto 30, [(0, 130)]), 0), (103, (.aload_n 0, []), 0), (104, (.getfield 316, [(11, 52)]), 175), (107, (.iload_n 2, []), 0), (108, (.ishr, []), 0), (109, (.iconst 1, []), 0), (110, (.iand, []), 0), (111, (.iconst 1, []), 0), (112, (.if_icmp .ne 12, [(0, 124)]), 0), (115, (.aload_n 0, []), 0), (116, (.getfield 122, [(11, 53)]), 171), (119, (.iload_n 2, []), 0), (120, (.laload, []), 0), (121, (.goto 9, [(0, 130)]), 0), (124, (.aload_n 0, []), 0), (125, (.getfield 83, [(11, 38)]), 201), (128, (.iload_n 2, []), 0), (129, (.laload, []), 0), (130, (.lreturn, []), 0)]
def mi_189 : rf_E1 := (mt_189, 17, cd_189)
def mt_190 : rf_Mt := (⟨"MemoryTransactionsModel", "rules", "()I"⟩, prog_14_method_66_code, 1, (Option.some Jvm.ClassFile.FieldType.int))
def cd_190 : List (Nat × rf_I × Nat) := [(0, (.aload_n 0, []), 0), (1, (.iconst 0, []), 0), (2, (.putfield 173, [(11, 0)]), 58), (5, (.aload_n 0, []), 0), (6, (.getfield 89, [(11, 40)]), 218), (9, (.iconst 0, []), 0), (10, (.iaload, []), 0), (11, (.ireturn, []), 0)]
def mi_190 : rf_E1 := (mt_190, 17, cd_190)
def mt_191 : rf_Mt := (⟨"MemoryTransactionsModel", "rows", "()I"⟩, prog_14_method_67_code, 1, (Option.some Jvm.ClassFile.FieldType.int))
def cd_191 : List (Nat × rf_I × Nat) := [(0, (.aload_n 0, []), 0), (1, (.iconst 0, []), 0), (2, (.putfield 173, [(11, 0)]), 58), (5, (.aload_n 0, []), 0), (6, (.getfield 386, [(11, 69)]), 164), (9, (.ireturn, []), 0)]
def mi_191 : rf_E1 := (mt_191, 17, cd_191)
def mt_192 : rf_Mt := (⟨"MemoryTransactionsModel", "row", "(II)I"⟩, prog_14_method_68_code, 3, (Option.some Jvm.ClassFile.FieldType.int))
def cd_192 : List (Nat × rf_I × Nat) := [(0, (.aload_n 0, []), 0), (1, (.iconst 0, []), 0), (2, (.putfield 173, [(11, 0)]), 58), (5, (.iload_n 1, []), 0), (6, (.ifCond .lt 11, [(0, 17)]), 0), (9, (.iload_n 1, []), 0), (10, (.aload_n 0, []), 0), (11, (.getfield 386, [(11, 69)]), 164), (14, (.if_icmp .lt 5, [(0, 19)]), 0), (17, (.iconst (-1), []), 0), (18, (.ireturn, []), 0), (19, (.iload_n 2, []), 0), (20, (.ifCond .ne 12, [(0, 32)]), 0), (23, (.aload_n 0, []), 0), (24, (.getfield 155, [(11, 70)]), 209), (27, (.iload_n 1, []), 0), (28, (.iaload, []), 0), (29, (.goto 60, [(0, 89)]), 0), (32, (.iload_n 2, []), 0), (33, (.iconst 1, []), 0), (34, (.if_icmp .ne 12, [(0, 46)]), 0), (37, (.aload_n 0, []), 0), (38, (.getfield 158, [(11, 71)]), 210), (41, (.iload_n 1, []), 0), (42, (.iaload, []), 0), (43, (.goto 46, [(0, 89)]), 0), (46, (.iload_n 2, []), 0), (47, (.iconst 2, []), 0), (48, (.if_icmp .ne 12, [(0, 60)]), 0), (51, (.aload_n 0, []), 0), (52, (.getfield 161, [(11, 72)]), 211), (55, (.iload_n 1, []), 0), (56, (.iaload, []), 0), (57, (.goto 32, [(0, 89)]), 0), (60, (.iload_n 2, []), 0), (61, (.iconst 3, []), 0), (62, (.if_icmp .ne 12, [(0, 74)]), 0), (65, (.aload_n 0, []), 0), (66, (.getfield 164, [(11, 73)]), 212), (69, (.iload_n 1, []), 0), (70, (.iaload, []), 0), (71, (.goto 18, [(0, 89)]), 0), (74, (.iload_n 2, []), 0), (75, (.iconst 4, []), 0), (76, (.if_icmp .ne 12, [(0, 88)]), 0), (79, (.aload_n 0, []), 0), (80, (.getfield 167, [(11, 74)]), 213), (83, (.iload_n 1, []), 0), (84, (.iaload, []), 0), (85, (.goto 4, [(0, 89)]), 0), (88, (.iconst (-1), []), 0), (89, (.ireturn, []), 0)]
def mi_192 : rf_E1 := (mt_192, 17, cd_192)
def mt_193 : rf_Mt := (⟨"MemoryTransactionsModel", "value", "(I)J"⟩, prog_14_method_69_code, 2, (Option.some Jvm.ClassFile.FieldType.long))
def cd_193 : List (Nat × rf_I × Nat) := [(0, (.aload_n 0, []), 0), (1, (.iconst 0, []), 0), (2, (.putfield 173, [(11, 0)]), 58), (5, (.iload_n 1, []), 0), (6, (.ifCond .lt 11, [(0, 17)]), 0), (9, (.iload_n 1, []), 0), (10, (.aload_n 0, []), 0), (11, (.getfield 386, [(11, 69)]), 164), (14, (.if_icmp .lt 7, [(0, 21)]), 0), (17, (.lconst 0, []), 0), (18, (.goto 9, [(0, 27)]), 0), (21, (.aload_n 0, []), 0), (22, (.getfield 170, [(11, 75)]), 214), (25, (.iload_n 1, []), 0), (26, (.laload, []), 0), (27, (.lreturn, []), 0)]
def mi_193 : rf_E1 := (mt_193, 17, cd_193)
def mt_194 : rf_Mt := (⟨"MemoryTransactionsModel", "replays", "()I"⟩, prog_14_method_71_code, 3, (Option.some Jvm.ClassFile.FieldType.int))
def cd_194 : List (Nat × rf_I × Nat) := [(0, (.aload_n 0, []), 0), (1, (.iconst 0, []), 0), (2, (.putfield 173, [(11, 0)]), 58), (5, (.iconst 0, []), 0), (6, (.istore_n 1, []), 0), (7, (.iload_n 1, []), 0), (8, (.bipush 16, []), 0), (10, (.if_icmp .ge 29, [(0, 39)]), 0), (13, (.aload_n 0, []), 0), (14, (.getfield 83, [(11, 38)]), 201), (17, (.bipush 16, []), 0), (19, (.iload_n 1, []), 0), (20, (.iadd, []), 0), (21, (.lconst 0, []), 0), (22, (.lastore, []), 0), (23, (.aload_n 0, []), 0), (24, (.getfield 86, [(11, 39)]), 176), (27, (.bipush 16, []), 0), (29, (.iload_n 1, []), 0), (30, (.iadd, []), 0), (31, (.iconst 0, []), 0), (32, (.iastore, []), 0), (33, (.iinc 1 1, []), 0), (36, (.goto (-29), [(0, 7)]), 0), (39, (.aload_n 0, []), 0), (40, (.getfield 89, [(11, 40)]), 218), (43, (.iconst 1, []), 0), (44, (.iconst 0, []), 0), (45, (.iastore, []), 0), (46, (.aload_n 0, []), 0), (47, (.iconst 1, []), 0), (48, (.putfield 319, [(11, 42)]), 147), (51, (.iconst 1, []), 0), (52, (.istore_n 1, []), 0), (53, (.iconst 0, []), 0), (54, (.istore_n 2, []), 0), (55, (.iload_n 2, []), 0), (56, (.aload_n 0, []), 0), (57, (.getfield 386, [(11, 69)]), 164), (60, (.if_icmp .ge 19, [(0, 79)]), 0), (63, (.iload_n 1, []), 0), (64, (.ifCond .eq 15, [(0, 79)]), 0), (67, (.aload_n 0, []), 0), (68, (.iload_n 2, []), 0), (69, (.invokevirtual 444, [(0, 1), (11, 195)]), 222), (72, (.istore_n 1, []), 0), (73, (.iinc 2 1, []), 0), (76, (.goto (-21), [(0, 55)]), 0), (79, (.iconst 0, []), 0), (80, (.istore_n 2, []), 0), (81, (.iload_n 2, []), 0), (82, (.bipush 16, []), 0), (84, (.if_icmp .ge 56, [(0, 140)]), 0), (87, (.iload_n 1, []), 0), (88, (.ifCond .eq 52, [(0, 140)]), 0), (91, (.aload_n 0, []), 0), (92, (.getfield 83, [(11, 38)]), 201), (95, (.iload_n 2, []), 0), (96, (.laload, []), 0), (97, (.aload_n 0, []), 0), (98, (.getfield 83, [(11, 38)]), 201), (101, (.bipush 16, []), 0), (103, (.iload_n 2, []), 0), (104, (.iadd, []), 0), (105, (.laload, []), 0), (106, (.lcmp, []), 0), (107, (.ifCond .ne 25, [(0, 132)]), 0), (110, (.aload_n 0, []), 0), (111, (.getfield 86, [(11, 39)]), 176), (114, (.iload_n 2, []), 0), (115, (.iaload, []), 0), (116, (.aload_n 0, []), 0), (117, (.getfield 86, [(11, 39)]), 176), (120, (.bipush 16, []), 0), (122, (.iload_n 2, []), 0), (123, (.iadd, []), 0), (124, (.iaload, []), 0), (125, (.if_icmp .ne 7, [(0, 132)]), 0), (128, (.iconst 1, []), 0), (129, (.goto 4, [(0, 133)]), 0), (132, (.iconst 0, []), 0), (133, (.istore_n 1, []), 0), (134, (.iinc 2 1, []), 0), (137, (.goto (-56), [(0, 81)]), 0), (140, (.iload_n 1, []), 0), (141, (.ifCond .eq 22, [(0, 163)]), 0), (144, (.aload_n 0, []), 0), (145, (.getfield 89, [(11, 40)]), 218), (148, (.iconst 0, []), 0), (149, (.iaload, []), 0), (150, (.aload_n 0, []), 0), (151, (.getfield 89, [(11, 40)]), 218), (154, (.iconst 1, []), 0), (155, (.iaload, []), 0), (156, (.if_icmp .ne 7, [(0, 163)]), 0), (159, (.iconst 1, []), 0), (160, (.goto 4, [(0, 164)]), 0), (163, (.iconst 0, []), 0), (164, (.istore_n 1, []), 0), (165, (.iconst 0, []), 0), (166, (.istore_n 2, []), 0), (167, (.iload_n 2, []), 0), (168, (.aload_n 0, []), 0), (169, (.getfield 89, [(11, 40)]), 218), (172, (.iconst 0, []), 0), (173, (.iaload, []), 0), (174, (.if_icmp .ge 37, [(0, 211)]), 0), (177, (.iload_n 1, []), 0), (178, (.ifCond .eq 33, [(0, 211)]), 0), (181, (.aload_n 0, []), 0), (182, (.getfield 92, [(11, 41)]), 219), (185, (.iload_n 2, []), 0), (186, (.iaload, []), 0), (187, (.aload_n 0, []), 0), (188, (.getfield 92, [(11, 41)]), 219), (191, (.bipush 32, []), 0), (193, (.iload_n 2, []), 0), (194, (.iadd, []), 0), (195, (.iaload, []), 0), (196, (.if_icmp .ne 7, [(0, 203)]), 0), (199, (.iconst 1, []), 0), (200, (.goto 4, [(0, 204)]), 0), (203, (.iconst 0, []), 0), (204, (.istore_n 1, []), 0), (205, (.iinc 2 1, []), 0), (208, (.goto (-41), [(0, 167)]), 0), (211, (.aload_n 0, []), 0), (212, (.iconst 0, []), 0), (213, (.putfield 319, [(11, 42)]), 147), (216, (.iload_n 1, []), 0), (217, (.ifCond .eq 7, [(0, 224)]), 0), (220, (.iconst 1, []), 0), (221, (.goto 4, [(0, 225)]), 0), (224, (.iconst 0, []), 0), (225, (.ireturn, []), 0)]
def mi_194 : rf_E1 := (mt_194, 17, cd_194)
def mt_195 : rf_Mt := (⟨"MemoryTransactionsModel", "comesToSame", "(I)Z"⟩, prog_14_method_70_code, 7, (Option.some Jvm.ClassFile.FieldType.boolean))
def cd_195 : List (Nat × rf_I × Nat) := [(0, (.aload_n 0, []), 0), (1, (.getfield 155, [(11, 70)]), 209), (4, (.iload_n 1, []), 0), (5, (.iaload, []), 0), (6, (.ifCond .ne 43, [(0, 49)]), 0), (9, (.aload_n 0, []), 0), (10, (.getfield 83, [(11, 38)]), 201), (13, (.bipush 16, []), 0), (15, (.aload_n 0, []), 0), (16, (.getfield 161, [(11, 72)]), 211), (19, (.iload_n 1, []), 0), (20, (.iaload, []), 0), (21, (.iadd, []), 0), (22, (.aload_n 0, []), 0), (23, (.getfield 170, [(11, 75)]), 214), (26, (.iload_n 1, []), 0), (27, (.laload, []), 0), (28, (.lastore, []), 0), (29, (.aload_n 0, []), 0), (30, (.getfield 86, [(11, 39)]), 176), (33, (.bipush 16, []), 0), (35, (.aload_n 0, []), 0), (36, (.getfield 161, [(11, 72)]), 211), (39, (.iload_n 1, []), 0), (40, (.iaload, []), 0), (41, (.iadd, []), 0), (42, (.dup2, []), 0), (43, (.iaload, []), 0), (44, (.iconst 1, []), 0), (45, (.iadd, []), 0), (46, (.iastore, []), 0), (47, (.iconst 1, []), 0), (48, (.ireturn, []), 0), (49, (.aload_n 0, []), 0), (50, (.aload_n 0, []), 0), (51, (.getfield 161, [(11, 72)]), 211), (54, (.iload_n 1, []), 0), (55, (.iaload, []), 0), (56, (.invokevirtual 441, [(0, 1), (11, 196)]), 223), (59, (.iconst 0, []), 0), (60, (.istore_n 2, []), 0), (61, (.iconst 0, []), 0), (62, (.istore_n 3, []), 0), (63, (.iload_n 3, []), 0), (64, (.ifCond .ne 21, [(0, 85)]), 0), (67, (.iload_n 2, []), 0), (68, (.sipush 300, []), 0), (71, (.if_icmp .ge 14, [(0, 85)]), 0), (74, (.aload_n 0, []), 0), (75, (.invokevirtual 395, [(0, 0), (11, 162)]), 155), (78, (.istore_n 3, []), 0), (79, (.iinc 2 1, []), 0), (82, (.goto (-19), [(0, 63)]), 0), (85, (.iload_n 3, []), 0), (86, (.iconst 2, []), 0), (87, (.if_icmp .ne 7, [(0, 94)]), 0), (90, (.iconst 1, []), 0), (91, (.goto 4, [(0, 95)]), 0), (94, (.iconst 0, []), 0), (95, (.istore 4, []), 0), (97, (.aload_n 0, []), 0), (98, (.getfield 342, [(11, 66)]), 160), (101, (.lstore 5, []), 0), (103, (.iload_n 3, []), 0), (104, (.ifCond .ne 17, [(0, 121)]), 0), (107, (.iconst 1, []), 0), (108, (.istore 4, []), 0), (110, (.ldc2_w 408, [(1, 18446744073709551613)]), 153), (113, (.lstore 5, []), 0), (115, (.iinc 2 1, []), 0), (118, (.goto 38, [(0, 156)]), 0), (121, (.iload_n 3, []), 0), (122, (.iconst 4, []), 0), (123, (.if_icmp .ne 21, [(0, 144)]), 0), (126, (.aload_n 0, []), 0), (127, (.invokevirtual 423, [(0, 0), (11, 179)]), 162), (130, (.ifCond .ne 14, [(0, 144)]), 0), (133, (.iconst 1, []), 0), (134, (.istore 4, []), 0), (136, (.ldc2_w 426, [(1, 18446744073709551614)]), 163), (139, (.lstore 5, []), 0), (141, (.goto 15, [(0, 156)]), 0), (144, (.iload_n 3, []), 0), (145, (.iconst 3, []), 0), (146, (.if_icmp .eq 8, [(0, 154)]), 0), (149, (.iload_n 3, []), 0), (150, (.iconst 1, []), 0), (151, (.if_icmp .ne 5, [(0, 156)]), 0), (154, (.iconst 0, []), 0), (155, (.ireturn, []), 0), (156, (.iload 4, []), 0), (158, (.ifCond .ne 7, [(0, 165)]), 0), (161, (.aload_n 0, []), 0), (162, (.invokevirtual 428, [(0, 0), (11, 182)]), 165), (165, (.iload_n 2, []), 0), (166, (.aload_n 0, []), 0), (167, (.getfield 164, [(11, 73)]), 212), (170, (.iload_n 1, []), 0), (171, (.iaload, []), 0), (172, (.if_icmp .ne 47, [(0, 219)]), 0), (175, (.iload 4, []), 0), (177, (.ifCond .eq 28, [(0, 205)]), 0), (180, (.aload_n 0, []), 0), (181, (.getfield 155, [(11, 70)]), 209), (184, (.iload_n 1, []), 0), (185, (.iaload, []), 0), (186, (.iconst 2, []), 0), (187, (.if_icmp .ne 32, [(0, 219)]), 0), (190, (.aload_n 0, []), 0), (191, (.getfield 170, [(11, 75)]), 214), (194, (.iload_n 1, []), 0), (195, (.laload, []), 0), (196, (.lload 5, []), 0), (198, (.lcmp, []), 0), (199, (.ifCond .ne 20, [(0, 219)]), 0), (202, (.goto 13, [(0, 215)]), 0), (205, (.aload_n 0, []), 0), (206, (.getfield 155, [(11, 70)]), 209), (209, (.iload_n 1, []), 0), (210, (.iaload, []), 0), (211, (.iconst 1, []), 0), (212, (.if_icmp .ne 7, [(0, 219)]), 0), (215, (.iconst 1, []), 0), (216, (.goto 4, [(0, 220)]), 0), (219, (.iconst 0, []), 0), (220, (.ireturn, []), 0)]
def mi_195 : rf_E1 := (mt_195, 17, cd_195)
def mt_196 : rf_Mt := (⟨"MemoryTransactionsModel", "beginRun", "(I)V"⟩, prog_14_method_33_code, 2, (Option.none : Option Jvm.ClassFile.FieldType))
def cd_196 : List (Nat × rf_I × Nat) := [(0, (.aload_n 0, []), 0), (1, (.iconst 0, []), 0), (2, (.putfield 316, [(11, 52)]), 170), (5, (.aload_n 0, []), 0), (6, (.iload_n 1, []), 0), (7, (.invokevirtual 345, [(0, 1), (11, 161)]), 178), (10, (.return_, []), 0)]
def mi_196 : rf_E1 := (mt_196, 17, cd_196)
def mt_197 : rf_Mt := (⟨"MemoryTransactionsModel", "clear", "()I"⟩, prog_14_method_72_code, 3, (Option.some Jvm.ClassFile.FieldType.int))
def cd_197 : List (Nat × rf_I × Nat) := [(0, (.aload_n 0, []), 0), (1, (.iconst 0, []), 0), (2, (.putfield 173, [(11, 0)]), 58), (5, (.aload_n 0, []), 0), (6, (.getfield 386, [(11, 69)]), 164), (9, (.istore_n 1, []), 0), (10, (.aload_n 0, []), 0), (11, (.iconst 0, []), 0), (12, (.putfield 386, [(11, 69)]), 215), (15, (.aload_n 0, []), 0), (16, (.getfield 89, [(11, 40)]), 218), (19, (.iconst 0, []), 0), (20, (.iconst 0, []), 0), (21, (.iastore, []), 0), (22, (.iconst 0, []), 0), (23, (.istore_n 2, []), 0), (24, (.iload_n 2, []), 0), (25, (.bipush 16, []), 0), (27, (.if_icmp .ge 23, [(0, 50)]), 0), (30, (.aload_n 0, []), 0), (31, (.getfield 83, [(11, 38)]), 201), (34, (.iload_n 2, []), 0), (35, (.lconst 0, []), 0), (36, (.lastore, []), 0), (37, (.aload_n 0, []), 0), (38, (.getfield 86, [(11, 39)]), 176), (41, (.iload_n 2, []), 0), (42, (.iconst 0, []), 0), (43, (.iastore, []), 0), (44, (.iinc 2 1, []), 0), (47, (.goto (-23), [(0, 24)]), 0), (50, (.iconst 0, []), 0), (51, (.istore_n 2, []), 0), (52, (.iload_n 2, []), 0), (53, (.bipush 8, []), 0), (55, (.if_icmp .ge 51, [(0, 106)]), 0), (58, (.aload_n 0, []), 0), (59, (.getfield 98, [(11, 44)]), 145), (62, (.iload_n 2, []), 0), (63, (.iconst 0, []), 0), (64, (.iastore, []), 0), (65, (.aload_n 0, []), 0), (66, (.getfield 101, [(11, 45)]), 146), (69, (.iload_n 2, []), 0), (70, (.iconst 0, []), 0), (71, (.iastore, []), 0), (72, (.aload_n 0, []), 0), (73, (.getfield 104, [(11, 46)]), 150), (76, (.iload_n 2, []), 0), (77, (.iconst 0, []), 0), (78, (.iastore, []), 0), (79, (.aload_n 0, []), 0), (80, (.getfield 107, [(11, 47)]), 167), (83, (.iload_n 2, []), 0), (84, (.iconst 0, []), 0), (85, (.iastore, []), 0), (86, (.aload_n 0, []), 0), (87, (.getfield 110, [(11, 48)]), 158), (90, (.iload_n 2, []), 0), (91, (.iconst 0, []), 0), (92, (.bastore, []), 0), (93, (.aload_n 0, []), 0), (94, (.getfield 113, [(11, 49)]), 151), (97, (.iload_n 2, []), 0), (98, (.iconst 0, []), 0), (99, (.iastore, []), 0), (100, (.iinc 2 1, []), 0), (103, (.goto (-51), [(0, 52)]), 0), (106, (.iload_n 1, []), 0), (107, (.ireturn, []), 0)]
def mi_197 : rf_E1 := (mt_197, 17, cd_197)
def ml0 (fz : Bool) : List rf_E1 := [mi_0, mi_1, mi_2, mi_3, mi_4, mi_5, mi_6, mi_7, mi_8, mi_9, mi_10, mi_11, mi_12, mi_13, mi_14, mi_15, mi_16, mi_17, mi_18, mi_19, mi_20, mi_21, mi_22, mi_23, mi_24, mi_25, mi_26, mi_27, mi_28, mi_29, mi_30 fz, mi_31, mi_32, mi_33, mi_34, mi_35, mi_36, mi_37, mi_38, mi_39, mi_40, mi_41, mi_42, mi_43, mi_44, mi_45, mi_46, mi_47, mi_48, mi_49, mi_50, mi_51, mi_52, mi_53, mi_54, mi_55, mi_56, mi_57, mi_58, mi_59, mi_60, mi_61, mi_62, mi_63, mi_64, mi_65, mi_66, mi_67, mi_68, mi_69, mi_70, mi_71, mi_72, mi_73, mi_74, mi_75, mi_76, mi_77, mi_78, mi_79, mi_80, mi_81, mi_82, mi_83, mi_84, mi_85, mi_86, mi_87, mi_88, mi_89, mi_90, mi_91, mi_92, mi_93, mi_94, mi_95, mi_96, mi_97, mi_98, mi_99, mi_100, mi_101, mi_102, mi_103, mi_104, mi_105, mi_106, mi_107, mi_108, mi_109, mi_110, mi_111, mi_112, mi_113, mi_114, mi_115, mi_116, mi_117, mi_118, mi_119, mi_120, mi_121, mi_122, mi_123, mi_124, mi_125, mi_126, mi_127, mi_128, mi_129, mi_130, mi_131, mi_132, mi_133, mi_134, mi_135, mi_136, mi_137, mi_138, mi_139, mi_140, mi_141, mi_142, mi_143, mi_144, mi_145, mi_146, mi_147, mi_148, mi_149, mi_150, mi_151, mi_152, mi_153, mi_154, mi_155, mi_156, mi_157, mi_158, mi_159, mi_160, mi_161, mi_162, mi_163, mi_164, mi_165, mi_166, mi_167, mi_168, mi_169, mi_170, mi_171, mi_172, mi_173, mi_174, mi_175, mi_176, mi_177, mi_178, mi_179, mi_180, mi_181, mi_182, mi_183, mi_184, mi_185, mi_186, mi_187, mi_188, mi_189, mi_190, mi_191, mi_192, mi_193, mi_194, mi_195, mi_196, mi_197]
def cx0 (fz : Bool) : rf_C := rf_cx (ml0 fz) ty0 cl0 22
theorem mtq_0 (fz : Bool) : (cx0 fz).2.1 0 = mt_0 := rfl
theorem mtq_1 (fz : Bool) : (cx0 fz).2.1 1 = mt_1 := rfl
theorem mtq_2 (fz : Bool) : (cx0 fz).2.1 2 = mt_2 := rfl
theorem mtq_3 (fz : Bool) : (cx0 fz).2.1 3 = mt_3 := rfl
theorem mtq_4 (fz : Bool) : (cx0 fz).2.1 4 = mt_4 := rfl
theorem mtq_5 (fz : Bool) : (cx0 fz).2.1 5 = mt_5 := rfl
theorem mtq_6 (fz : Bool) : (cx0 fz).2.1 6 = mt_6 := rfl
theorem mtq_7 (fz : Bool) : (cx0 fz).2.1 7 = mt_7 := rfl
theorem mtq_8 (fz : Bool) : (cx0 fz).2.1 8 = mt_8 := rfl
theorem mtq_9 (fz : Bool) : (cx0 fz).2.1 9 = mt_9 := rfl
theorem mtq_10 (fz : Bool) : (cx0 fz).2.1 10 = mt_10 := rfl
theorem mtq_11 (fz : Bool) : (cx0 fz).2.1 11 = mt_11 := rfl
theorem mtq_12 (fz : Bool) : (cx0 fz).2.1 12 = mt_12 := rfl
theorem mtq_13 (fz : Bool) : (cx0 fz).2.1 13 = mt_13 := rfl
theorem mtq_14 (fz : Bool) : (cx0 fz).2.1 14 = mt_14 := rfl
theorem mtq_15 (fz : Bool) : (cx0 fz).2.1 15 = mt_15 := rfl
theorem mtq_16 (fz : Bool) : (cx0 fz).2.1 16 = mt_16 := rfl
theorem mtq_17 (fz : Bool) : (cx0 fz).2.1 17 = mt_17 := rfl
theorem mtq_18 (fz : Bool) : (cx0 fz).2.1 18 = mt_18 := rfl
theorem mtq_19 (fz : Bool) : (cx0 fz).2.1 19 = mt_19 := rfl
theorem mtq_20 (fz : Bool) : (cx0 fz).2.1 20 = mt_20 := rfl
theorem mtq_21 (fz : Bool) : (cx0 fz).2.1 21 = mt_21 := rfl
theorem mtq_22 (fz : Bool) : (cx0 fz).2.1 22 = mt_22 := rfl
theorem mtq_23 (fz : Bool) : (cx0 fz).2.1 23 = mt_23 := rfl
theorem mtq_24 (fz : Bool) : (cx0 fz).2.1 24 = mt_24 := rfl
theorem mtq_25 (fz : Bool) : (cx0 fz).2.1 25 = mt_25 := rfl
theorem mtq_26 (fz : Bool) : (cx0 fz).2.1 26 = mt_26 := rfl
theorem mtq_27 (fz : Bool) : (cx0 fz).2.1 27 = mt_27 := rfl
theorem mtq_28 (fz : Bool) : (cx0 fz).2.1 28 = mt_28 := rfl
theorem mtq_29 (fz : Bool) : (cx0 fz).2.1 29 = mt_29 := rfl
theorem mtq_30 (fz : Bool) : (cx0 fz).2.1 30 = mt_30 := rfl
theorem mtq_31 (fz : Bool) : (cx0 fz).2.1 31 = mt_31 := rfl
theorem mtq_32 (fz : Bool) : (cx0 fz).2.1 32 = mt_32 := rfl
theorem mtq_33 (fz : Bool) : (cx0 fz).2.1 33 = mt_33 := rfl
theorem mtq_34 (fz : Bool) : (cx0 fz).2.1 34 = mt_34 := rfl
theorem mtq_35 (fz : Bool) : (cx0 fz).2.1 35 = mt_35 := rfl
theorem mtq_36 (fz : Bool) : (cx0 fz).2.1 36 = mt_36 := rfl
theorem mtq_37 (fz : Bool) : (cx0 fz).2.1 37 = mt_37 := rfl
theorem mtq_38 (fz : Bool) : (cx0 fz).2.1 38 = mt_38 := rfl
theorem mtq_39 (fz : Bool) : (cx0 fz).2.1 39 = mt_39 := rfl
theorem mtq_40 (fz : Bool) : (cx0 fz).2.1 40 = mt_40 := rfl
theorem mtq_41 (fz : Bool) : (cx0 fz).2.1 41 = mt_41 := rfl
theorem mtq_42 (fz : Bool) : (cx0 fz).2.1 42 = mt_42 := rfl
theorem mtq_43 (fz : Bool) : (cx0 fz).2.1 43 = mt_43 := rfl
theorem mtq_44 (fz : Bool) : (cx0 fz).2.1 44 = mt_44 := rfl
theorem mtq_45 (fz : Bool) : (cx0 fz).2.1 45 = mt_45 := rfl
theorem mtq_46 (fz : Bool) : (cx0 fz).2.1 46 = mt_46 := rfl
theorem mtq_47 (fz : Bool) : (cx0 fz).2.1 47 = mt_47 := rfl
theorem mtq_48 (fz : Bool) : (cx0 fz).2.1 48 = mt_48 := rfl
theorem mtq_49 (fz : Bool) : (cx0 fz).2.1 49 = mt_49 := rfl
theorem mtq_50 (fz : Bool) : (cx0 fz).2.1 50 = mt_50 := rfl
theorem mtq_51 (fz : Bool) : (cx0 fz).2.1 51 = mt_51 := rfl
theorem mtq_52 (fz : Bool) : (cx0 fz).2.1 52 = mt_52 := rfl
theorem mtq_53 (fz : Bool) : (cx0 fz).2.1 53 = mt_53 := rfl
theorem mtq_54 (fz : Bool) : (cx0 fz).2.1 54 = mt_54 := rfl
theorem mtq_55 (fz : Bool) : (cx0 fz).2.1 55 = mt_55 := rfl
theorem mtq_56 (fz : Bool) : (cx0 fz).2.1 56 = mt_56 := rfl
theorem mtq_57 (fz : Bool) : (cx0 fz).2.1 57 = mt_57 := rfl
theorem mtq_58 (fz : Bool) : (cx0 fz).2.1 58 = mt_58 := rfl
theorem mtq_59 (fz : Bool) : (cx0 fz).2.1 59 = mt_59 := rfl
theorem mtq_60 (fz : Bool) : (cx0 fz).2.1 60 = mt_60 := rfl
theorem mtq_61 (fz : Bool) : (cx0 fz).2.1 61 = mt_61 := rfl
theorem mtq_62 (fz : Bool) : (cx0 fz).2.1 62 = mt_62 := rfl
theorem mtq_63 (fz : Bool) : (cx0 fz).2.1 63 = mt_63 := rfl
theorem mtq_64 (fz : Bool) : (cx0 fz).2.1 64 = mt_64 := rfl
theorem mtq_65 (fz : Bool) : (cx0 fz).2.1 65 = mt_65 := rfl
theorem mtq_66 (fz : Bool) : (cx0 fz).2.1 66 = mt_66 := rfl
theorem mtq_67 (fz : Bool) : (cx0 fz).2.1 67 = mt_67 := rfl
theorem mtq_68 (fz : Bool) : (cx0 fz).2.1 68 = mt_68 := rfl
theorem mtq_69 (fz : Bool) : (cx0 fz).2.1 69 = mt_69 := rfl
theorem mtq_70 (fz : Bool) : (cx0 fz).2.1 70 = mt_70 := rfl
theorem mtq_71 (fz : Bool) : (cx0 fz).2.1 71 = mt_71 := rfl
theorem mtq_72 (fz : Bool) : (cx0 fz).2.1 72 = mt_72 := rfl
theorem mtq_73 (fz : Bool) : (cx0 fz).2.1 73 = mt_73 := rfl
theorem mtq_74 (fz : Bool) : (cx0 fz).2.1 74 = mt_74 := rfl
theorem mtq_75 (fz : Bool) : (cx0 fz).2.1 75 = mt_75 := rfl
theorem mtq_76 (fz : Bool) : (cx0 fz).2.1 76 = mt_76 := rfl
theorem mtq_77 (fz : Bool) : (cx0 fz).2.1 77 = mt_77 := rfl
theorem mtq_78 (fz : Bool) : (cx0 fz).2.1 78 = mt_78 := rfl
theorem mtq_79 (fz : Bool) : (cx0 fz).2.1 79 = mt_79 := rfl
theorem mtq_80 (fz : Bool) : (cx0 fz).2.1 80 = mt_80 := rfl
theorem mtq_81 (fz : Bool) : (cx0 fz).2.1 81 = mt_81 := rfl
theorem mtq_82 (fz : Bool) : (cx0 fz).2.1 82 = mt_82 := rfl
theorem mtq_83 (fz : Bool) : (cx0 fz).2.1 83 = mt_83 := rfl
theorem mtq_84 (fz : Bool) : (cx0 fz).2.1 84 = mt_84 := rfl
theorem mtq_85 (fz : Bool) : (cx0 fz).2.1 85 = mt_85 := rfl
theorem mtq_86 (fz : Bool) : (cx0 fz).2.1 86 = mt_86 := rfl
theorem mtq_87 (fz : Bool) : (cx0 fz).2.1 87 = mt_87 := rfl
theorem mtq_88 (fz : Bool) : (cx0 fz).2.1 88 = mt_88 := rfl
theorem mtq_89 (fz : Bool) : (cx0 fz).2.1 89 = mt_89 := rfl
theorem mtq_90 (fz : Bool) : (cx0 fz).2.1 90 = mt_90 := rfl
theorem mtq_91 (fz : Bool) : (cx0 fz).2.1 91 = mt_91 := rfl
theorem mtq_92 (fz : Bool) : (cx0 fz).2.1 92 = mt_92 := rfl
theorem mtq_93 (fz : Bool) : (cx0 fz).2.1 93 = mt_93 := rfl
theorem mtq_94 (fz : Bool) : (cx0 fz).2.1 94 = mt_94 := rfl
theorem mtq_95 (fz : Bool) : (cx0 fz).2.1 95 = mt_95 := rfl
theorem mtq_96 (fz : Bool) : (cx0 fz).2.1 96 = mt_96 := rfl
theorem mtq_97 (fz : Bool) : (cx0 fz).2.1 97 = mt_97 := rfl
theorem mtq_98 (fz : Bool) : (cx0 fz).2.1 98 = mt_98 := rfl
theorem mtq_99 (fz : Bool) : (cx0 fz).2.1 99 = mt_99 := rfl
theorem mtq_100 (fz : Bool) : (cx0 fz).2.1 100 = mt_100 := rfl
theorem mtq_101 (fz : Bool) : (cx0 fz).2.1 101 = mt_101 := rfl
theorem mtq_102 (fz : Bool) : (cx0 fz).2.1 102 = mt_102 := rfl
theorem mtq_103 (fz : Bool) : (cx0 fz).2.1 103 = mt_103 := rfl
theorem mtq_104 (fz : Bool) : (cx0 fz).2.1 104 = mt_104 := rfl
theorem mtq_105 (fz : Bool) : (cx0 fz).2.1 105 = mt_105 := rfl
theorem mtq_106 (fz : Bool) : (cx0 fz).2.1 106 = mt_106 := rfl
theorem mtq_107 (fz : Bool) : (cx0 fz).2.1 107 = mt_107 := rfl
theorem mtq_108 (fz : Bool) : (cx0 fz).2.1 108 = mt_108 := rfl
theorem mtq_109 (fz : Bool) : (cx0 fz).2.1 109 = mt_109 := rfl
theorem mtq_110 (fz : Bool) : (cx0 fz).2.1 110 = mt_110 := rfl
theorem mtq_111 (fz : Bool) : (cx0 fz).2.1 111 = mt_111 := rfl
theorem mtq_112 (fz : Bool) : (cx0 fz).2.1 112 = mt_112 := rfl
theorem mtq_113 (fz : Bool) : (cx0 fz).2.1 113 = mt_113 := rfl
theorem mtq_114 (fz : Bool) : (cx0 fz).2.1 114 = mt_114 := rfl
theorem mtq_115 (fz : Bool) : (cx0 fz).2.1 115 = mt_115 := rfl
theorem mtq_116 (fz : Bool) : (cx0 fz).2.1 116 = mt_116 := rfl
theorem mtq_117 (fz : Bool) : (cx0 fz).2.1 117 = mt_117 := rfl
theorem mtq_118 (fz : Bool) : (cx0 fz).2.1 118 = mt_118 := rfl
theorem mtq_119 (fz : Bool) : (cx0 fz).2.1 119 = mt_119 := rfl
theorem mtq_120 (fz : Bool) : (cx0 fz).2.1 120 = mt_120 := rfl
theorem mtq_121 (fz : Bool) : (cx0 fz).2.1 121 = mt_121 := rfl
theorem mtq_122 (fz : Bool) : (cx0 fz).2.1 122 = mt_122 := rfl
theorem mtq_123 (fz : Bool) : (cx0 fz).2.1 123 = mt_123 := rfl
theorem mtq_124 (fz : Bool) : (cx0 fz).2.1 124 = mt_124 := rfl
theorem mtq_125 (fz : Bool) : (cx0 fz).2.1 125 = mt_125 := rfl
theorem mtq_126 (fz : Bool) : (cx0 fz).2.1 126 = mt_126 := rfl
theorem mtq_127 (fz : Bool) : (cx0 fz).2.1 127 = mt_127 := rfl
theorem mtq_128 (fz : Bool) : (cx0 fz).2.1 128 = mt_128 := rfl
theorem mtq_129 (fz : Bool) : (cx0 fz).2.1 129 = mt_129 := rfl
theorem mtq_130 (fz : Bool) : (cx0 fz).2.1 130 = mt_130 := rfl
theorem mtq_131 (fz : Bool) : (cx0 fz).2.1 131 = mt_131 := rfl
theorem mtq_132 (fz : Bool) : (cx0 fz).2.1 132 = mt_132 := rfl
theorem mtq_133 (fz : Bool) : (cx0 fz).2.1 133 = mt_133 := rfl
theorem mtq_134 (fz : Bool) : (cx0 fz).2.1 134 = mt_134 := rfl
theorem mtq_135 (fz : Bool) : (cx0 fz).2.1 135 = mt_135 := rfl
theorem mtq_136 (fz : Bool) : (cx0 fz).2.1 136 = mt_136 := rfl
theorem mtq_137 (fz : Bool) : (cx0 fz).2.1 137 = mt_137 := rfl
theorem mtq_138 (fz : Bool) : (cx0 fz).2.1 138 = mt_138 := rfl
theorem mtq_139 (fz : Bool) : (cx0 fz).2.1 139 = mt_139 := rfl
theorem mtq_140 (fz : Bool) : (cx0 fz).2.1 140 = mt_140 := rfl
theorem mtq_141 (fz : Bool) : (cx0 fz).2.1 141 = mt_141 := rfl
theorem mtq_142 (fz : Bool) : (cx0 fz).2.1 142 = mt_142 := rfl
theorem mtq_143 (fz : Bool) : (cx0 fz).2.1 143 = mt_143 := rfl
theorem mtq_144 (fz : Bool) : (cx0 fz).2.1 144 = mt_144 := rfl
theorem mtq_145 (fz : Bool) : (cx0 fz).2.1 145 = mt_145 := rfl
theorem mtq_146 (fz : Bool) : (cx0 fz).2.1 146 = mt_146 := rfl
theorem mtq_147 (fz : Bool) : (cx0 fz).2.1 147 = mt_147 := rfl
theorem mtq_148 (fz : Bool) : (cx0 fz).2.1 148 = mt_148 := rfl
theorem mtq_149 (fz : Bool) : (cx0 fz).2.1 149 = mt_149 := rfl
theorem mtq_150 (fz : Bool) : (cx0 fz).2.1 150 = mt_150 := rfl
theorem mtq_151 (fz : Bool) : (cx0 fz).2.1 151 = mt_151 := rfl
theorem mtq_152 (fz : Bool) : (cx0 fz).2.1 152 = mt_152 := rfl
theorem mtq_153 (fz : Bool) : (cx0 fz).2.1 153 = mt_153 := rfl
theorem mtq_154 (fz : Bool) : (cx0 fz).2.1 154 = mt_154 := rfl
theorem mtq_155 (fz : Bool) : (cx0 fz).2.1 155 = mt_155 := rfl
theorem mtq_156 (fz : Bool) : (cx0 fz).2.1 156 = mt_156 := rfl
theorem mtq_157 (fz : Bool) : (cx0 fz).2.1 157 = mt_157 := rfl
theorem mtq_158 (fz : Bool) : (cx0 fz).2.1 158 = mt_158 := rfl
theorem mtq_159 (fz : Bool) : (cx0 fz).2.1 159 = mt_159 := rfl
theorem mtq_160 (fz : Bool) : (cx0 fz).2.1 160 = mt_160 := rfl
theorem mtq_161 (fz : Bool) : (cx0 fz).2.1 161 = mt_161 := rfl
theorem mtq_162 (fz : Bool) : (cx0 fz).2.1 162 = mt_162 := rfl
theorem mtq_163 (fz : Bool) : (cx0 fz).2.1 163 = mt_163 := rfl
theorem mtq_164 (fz : Bool) : (cx0 fz).2.1 164 = mt_164 := rfl
theorem mtq_165 (fz : Bool) : (cx0 fz).2.1 165 = mt_165 := rfl
theorem mtq_166 (fz : Bool) : (cx0 fz).2.1 166 = mt_166 := rfl
theorem mtq_167 (fz : Bool) : (cx0 fz).2.1 167 = mt_167 := rfl
theorem mtq_168 (fz : Bool) : (cx0 fz).2.1 168 = mt_168 := rfl
theorem mtq_169 (fz : Bool) : (cx0 fz).2.1 169 = mt_169 := rfl
theorem mtq_170 (fz : Bool) : (cx0 fz).2.1 170 = mt_170 := rfl
theorem mtq_171 (fz : Bool) : (cx0 fz).2.1 171 = mt_171 := rfl
theorem mtq_172 (fz : Bool) : (cx0 fz).2.1 172 = mt_172 := rfl
theorem mtq_173 (fz : Bool) : (cx0 fz).2.1 173 = mt_173 := rfl
theorem mtq_174 (fz : Bool) : (cx0 fz).2.1 174 = mt_174 := rfl
theorem mtq_175 (fz : Bool) : (cx0 fz).2.1 175 = mt_175 := rfl
theorem mtq_176 (fz : Bool) : (cx0 fz).2.1 176 = mt_176 := rfl
theorem mtq_177 (fz : Bool) : (cx0 fz).2.1 177 = mt_177 := rfl
theorem mtq_178 (fz : Bool) : (cx0 fz).2.1 178 = mt_178 := rfl
theorem mtq_179 (fz : Bool) : (cx0 fz).2.1 179 = mt_179 := rfl
theorem mtq_180 (fz : Bool) : (cx0 fz).2.1 180 = mt_180 := rfl
theorem mtq_181 (fz : Bool) : (cx0 fz).2.1 181 = mt_181 := rfl
theorem mtq_182 (fz : Bool) : (cx0 fz).2.1 182 = mt_182 := rfl
theorem mtq_183 (fz : Bool) : (cx0 fz).2.1 183 = mt_183 := rfl
theorem mtq_184 (fz : Bool) : (cx0 fz).2.1 184 = mt_184 := rfl
theorem mtq_185 (fz : Bool) : (cx0 fz).2.1 185 = mt_185 := rfl
theorem mtq_186 (fz : Bool) : (cx0 fz).2.1 186 = mt_186 := rfl
theorem mtq_187 (fz : Bool) : (cx0 fz).2.1 187 = mt_187 := rfl
theorem mtq_188 (fz : Bool) : (cx0 fz).2.1 188 = mt_188 := rfl
theorem mtq_189 (fz : Bool) : (cx0 fz).2.1 189 = mt_189 := rfl
theorem mtq_190 (fz : Bool) : (cx0 fz).2.1 190 = mt_190 := rfl
theorem mtq_191 (fz : Bool) : (cx0 fz).2.1 191 = mt_191 := rfl
theorem mtq_192 (fz : Bool) : (cx0 fz).2.1 192 = mt_192 := rfl
theorem mtq_193 (fz : Bool) : (cx0 fz).2.1 193 = mt_193 := rfl
theorem mtq_194 (fz : Bool) : (cx0 fz).2.1 194 = mt_194 := rfl
theorem mtq_195 (fz : Bool) : (cx0 fz).2.1 195 = mt_195 := rfl
theorem mtq_196 (fz : Bool) : (cx0 fz).2.1 196 = mt_196 := rfl
theorem mtq_197 (fz : Bool) : (cx0 fz).2.1 197 = mt_197 := rfl
def nmO (c : Nat) : String := ["MemoryTransactionsLaw", "MemoryTransactions", "MemoryTransactions$Program", "MemoryTransactions$Parser", "MemoryTransactions$Scanner", "MemoryTransactions$Store", "MemoryTransactions$Letters", "MemoryTransactions$Calculator", "MemoryTransactions$Client", "MemoryTransactions$Run", "MemoryTransactions$Draft", "MemoryTransactions$Journal", "MemoryTransactions$Replay", "java/lang/String", "java/lang/StringLatin1", "jdk/internal/util/Preconditions", "java/util/Arrays", "MemoryTransactionsModel", "java/lang/String"].getD c ""
end
section
theorem mo_1 (fz : Bool) : rf_mo (cx0 fz) tb0 0 1 := mo_of (mtq_1 fz) (tb1 25 rfl rfl) (by decide +kernel) ⟨by decide +kernel, by decide +kernel⟩ (by decide +kernel) (tb1 1 rfl rfl)
theorem mo_2 (fz : Bool) : rf_mo (cx0 fz) tb0 0 2 := mo_of (mtq_2 fz) (tb1 34 rfl rfl) (by decide +kernel) ⟨by decide +kernel, by decide +kernel⟩ (by decide +kernel) (tb1 2 rfl rfl)
theorem mo_3 (fz : Bool) : rf_mo (cx0 fz) tb0 0 3 := mo_of (mtq_3 fz) (tb1 111 rfl rfl) (by decide +kernel) ⟨by decide +kernel, by decide +kernel⟩ (by decide +kernel) (tb1 3 rfl rfl)
theorem mo_4 (fz : Bool) : rf_mo (cx0 fz) tb0 0 4 := mo_of (mtq_4 fz) (tb1 117 rfl rfl) (by decide +kernel) ⟨by decide +kernel, by decide +kernel⟩ (by decide +kernel) (tb1 4 rfl rfl)
theorem mo_5 (fz : Bool) : rf_mo (cx0 fz) tb0 0 5 := mo_of (mtq_5 fz) (tb1 167 rfl rfl) (by decide +kernel) ⟨by decide +kernel, by decide +kernel⟩ (by decide +kernel) (tb1 6 rfl rfl)
theorem mo_6 (fz : Bool) : rf_mo (cx0 fz) tb0 0 6 := mo_of (mtq_6 fz) (tb1 170 rfl rfl) (by decide +kernel) ⟨by decide +kernel, by decide +kernel⟩ (by decide +kernel) (tb1 5 rfl rfl)
theorem mo_7 (fz : Bool) : rf_mo (cx0 fz) tb0 0 7 := mo_of (mtq_7 fz) (tb1 177 rfl rfl) (by decide +kernel) ⟨by decide +kernel, by decide +kernel⟩ (by decide +kernel) (tb1 7 rfl rfl)
theorem mo_8 (fz : Bool) : rf_mo (cx0 fz) tb0 2 8 := mo_of (mtq_8 fz) (tb1 226 rfl rfl) (by decide +kernel) ⟨by decide +kernel, by decide +kernel⟩ (by decide +kernel) (tb1 8 rfl rfl)
theorem mo_9 (fz : Bool) : rf_mo (cx0 fz) tb0 2 9 := mo_of (mtq_9 fz) (tb1 232 rfl rfl) (by decide +kernel) ⟨by decide +kernel, by decide +kernel⟩ (by decide +kernel) (tb1 9 rfl rfl)
theorem mo_10 (fz : Bool) : rf_mo (cx0 fz) tb0 0 10 := mo_of (mtq_10 fz) (tb1 238 rfl rfl) (by decide +kernel) ⟨by decide +kernel, by decide +kernel⟩ (by decide +kernel) (tb1 10 rfl rfl)
theorem mo_11 (fz : Bool) : rf_mo (cx0 fz) tb0 0 11 := mo_of (mtq_11 fz) (tb2 116 rfl rfl) (by decide +kernel) ⟨by decide +kernel, by decide +kernel⟩ (by decide +kernel) (tb1 11 rfl rfl)
theorem mo_12 (fz : Bool) : rf_mo (cx0 fz) tb0 1 12 := mo_of (mtq_12 fz) (tb2 150 rfl rfl) (by decide +kernel) ⟨by decide +kernel, by decide +kernel⟩ (by decide +kernel) (tb1 12 rfl rfl)
theorem mo_13 (fz : Bool) : rf_mo (cx0 fz) tb0 5 13 := mo_of (mtq_13 fz) (tb2 209 rfl rfl) (by decide +kernel) ⟨by decide +kernel, by decide +kernel⟩ (by decide +kernel) (tb1 1 rfl rfl)
theorem mo_14 (fz : Bool) : rf_mo (cx0 fz) tb0 1 14 := mo_of (mtq_14 fz) (tb2 213 rfl rfl) (by decide +kernel) ⟨by decide +kernel, by decide +kernel⟩ (by decide +kernel) (tb1 1 rfl rfl)
theorem mo_15 (fz : Bool) : rf_mo (cx0 fz) tb0 1 15 := mo_of (mtq_15 fz) (tb2 217 rfl rfl) (by decide +kernel) ⟨by decide +kernel, by decide +kernel⟩ (by decide +kernel) (tb1 1 rfl rfl)
theorem mo_16 (fz : Bool) : rf_mo (cx0 fz) tb0 0 16 := mo_of (mtq_16 fz) (tb2 221 rfl rfl) (by decide +kernel) ⟨by decide +kernel, by decide +kernel⟩ (by decide +kernel) (tb1 1 rfl rfl)
theorem mo_17 (fz : Bool) : rf_mo (cx0 fz) tb0 3 17 := mo_of (mtq_17 fz) (tb2 225 rfl rfl) (by decide +kernel) ⟨by decide +kernel, by decide +kernel⟩ (by decide +kernel) (tb1 3 rfl rfl)
theorem mo_18 (fz : Bool) : rf_mo (cx0 fz) tb0 0 18 := mo_of (mtq_18 fz) (tb2 229 rfl rfl) (by decide +kernel) ⟨by decide +kernel, by decide +kernel⟩ (by decide +kernel) (tb1 2 rfl rfl)
theorem mo_19 (fz : Bool) : rf_mo (cx0 fz) tb0 2 19 := mo_of (mtq_19 fz) (tb2 233 rfl rfl) (by decide +kernel) ⟨by decide +kernel, by decide +kernel⟩ (by decide +kernel) (tb1 4 rfl rfl)
theorem mo_20 (fz : Bool) : rf_mo (cx0 fz) tb0 0 20 := mo_of (mtq_20 fz) (tb3 0 rfl rfl) (by decide +kernel) ⟨by decide +kernel, by decide +kernel⟩ (by decide +kernel) (tb1 4 rfl rfl)
theorem mo_21 (fz : Bool) : rf_mo (cx0 fz) tb0 1 21 := mo_of (mtq_21 fz) (tb3 3 rfl rfl) (by decide +kernel) ⟨by decide +kernel, by decide +kernel⟩ (by decide +kernel) (tb1 4 rfl rfl)
theorem mo_22 (fz : Bool) : rf_mo (cx0 fz) tb0 0 22 := mo_of (mtq_22 fz) (tb3 7 rfl rfl) (by decide +kernel) ⟨by decide +kernel, by decide +kernel⟩ (by decide +kernel) (tb1 4 rfl rfl)
theorem mo_23 (fz : Bool) : rf_mo (cx0 fz) tb0 1 23 := mo_of (mtq_23 fz) (tb3 11 rfl rfl) (by decide +kernel) ⟨by decide +kernel, by decide +kernel⟩ (by decide +kernel) (tb1 4 rfl rfl)
theorem mo_24 (fz : Bool) : rf_mo (cx0 fz) tb0 2 24 := mo_of (mtq_24 fz) (tb3 16 rfl rfl) (by decide +kernel) ⟨by decide +kernel, by decide +kernel⟩ (by decide +kernel) (tb1 4 rfl rfl)
theorem mo_25 (fz : Bool) : rf_mo (cx0 fz) tb0 0 25 := mo_of (mtq_25 fz) (tb3 20 rfl rfl) (by decide +kernel) ⟨by decide +kernel, by decide +kernel⟩ (by decide +kernel) (tb1 15 rfl rfl)
theorem mo_26 (fz : Bool) : rf_mo (cx0 fz) tb0 0 26 := mo_of (mtq_26 fz) (tb3 24 rfl rfl) (by decide +kernel) ⟨by decide +kernel, by decide +kernel⟩ (by decide +kernel) (tb1 15 rfl rfl)
theorem mo_27 (fz : Bool) : rf_mo (cx0 fz) tb0 1 27 := mo_of (mtq_27 fz) (tb3 30 rfl rfl) (by decide +kernel) ⟨by decide +kernel, by decide +kernel⟩ (by decide +kernel) (tb1 15 rfl rfl)
theorem mo_28 (fz : Bool) : rf_mo (cx0 fz) tb0 0 28 := mo_of (mtq_28 fz) (tb3 34 rfl rfl) (by decide +kernel) ⟨by decide +kernel, by decide +kernel⟩ (by decide +kernel) (tb1 15 rfl rfl)
theorem mo_29 (fz : Bool) : rf_mo (cx0 fz) tb0 2 29 := mo_of (mtq_29 fz) (tb3 37 rfl rfl) (by decide +kernel) ⟨by decide +kernel, by decide +kernel⟩ (by decide +kernel) (tb1 16 rfl rfl)
theorem mo_30 (fz : Bool) : rf_mo (cx0 fz) tb0 2 30 := mo_of (mtq_30 fz) (tb3 40 rfl rfl) (by decide +kernel) ⟨by decide +kernel, by decide +kernel⟩ (by decide +kernel) (tb1 15 rfl rfl)
theorem mo_31 (fz : Bool) : rf_mo (cx0 fz) tb0 3 31 := mo_of (mtq_31 fz) (tb3 45 rfl rfl) (by decide +kernel) ⟨by decide +kernel, by decide +kernel⟩ (by decide +kernel) (tb1 17 rfl rfl)
theorem mo_32 (fz : Bool) : rf_mo (cx0 fz) tb0 1 32 := mo_of (mtq_32 fz) (tb3 76 rfl rfl) (by decide +kernel) ⟨by decide +kernel, by decide +kernel⟩ (by decide +kernel) (tb1 4 rfl rfl)
theorem mo_33 (fz : Bool) : rf_mo (cx0 fz) tb0 0 33 := mo_of (mtq_33 fz) (tb3 80 rfl rfl) (by decide +kernel) ⟨by decide +kernel, by decide +kernel⟩ (by decide +kernel) (tb1 4 rfl rfl)
theorem mo_34 (fz : Bool) : rf_mo (cx0 fz) tb0 1 34 := mo_of (mtq_34 fz) (tb3 83 rfl rfl) (by decide +kernel) ⟨by decide +kernel, by decide +kernel⟩ (by decide +kernel) (tb1 4 rfl rfl)
theorem mo_35 (fz : Bool) : rf_mo (cx0 fz) tb0 3 35 := mo_of (mtq_35 fz) (tb3 87 rfl rfl) (by decide +kernel) ⟨by decide +kernel, by decide +kernel⟩ (by decide +kernel) (tb1 3 rfl rfl)
theorem mo_36 (fz : Bool) : rf_mo (cx0 fz) tb0 0 36 := mo_of (mtq_36 fz) (tb3 91 rfl rfl) (by decide +kernel) ⟨by decide +kernel, by decide +kernel⟩ (by decide +kernel) (tb1 3 rfl rfl)
theorem mo_37 (fz : Bool) : rf_mo (cx0 fz) tb0 1 37 := mo_of (mtq_37 fz) (tb3 95 rfl rfl) (by decide +kernel) ⟨by decide +kernel, by decide +kernel⟩ (by decide +kernel) (tb1 3 rfl rfl)
theorem mo_38 (fz : Bool) : rf_mo (cx0 fz) tb0 3 38 := mo_of (mtq_38 fz) (tb3 99 rfl rfl) (by decide +kernel) ⟨by decide +kernel, by decide +kernel⟩ (by decide +kernel) (tb1 3 rfl rfl)
theorem mo_39 (fz : Bool) : rf_mo (cx0 fz) tb0 0 39 := mo_of (mtq_39 fz) (tb3 103 rfl rfl) (by decide +kernel) ⟨by decide +kernel, by decide +kernel⟩ (by decide +kernel) (tb1 3 rfl rfl)
theorem mo_40 (fz : Bool) : rf_mo (cx0 fz) tb0 1 40 := mo_of (mtq_40 fz) (tb3 106 rfl rfl) (by decide +kernel) ⟨by decide +kernel, by decide +kernel⟩ (by decide +kernel) (tb1 3 rfl rfl)
theorem mo_41 (fz : Bool) : rf_mo (cx0 fz) tb0 4 41 := mo_of (mtq_41 fz) (tb3 110 rfl rfl) (by decide +kernel) ⟨by decide +kernel, by decide +kernel⟩ (by decide +kernel) (tb1 2 rfl rfl)
theorem mo_42 (fz : Bool) : rf_mo (cx0 fz) tb0 0 42 := mo_of (mtq_42 fz) (tb3 114 rfl rfl) (by decide +kernel) ⟨by decide +kernel, by decide +kernel⟩ (by decide +kernel) (tb1 3 rfl rfl)
theorem mo_43 (fz : Bool) : rf_mo (cx0 fz) tb0 0 43 := mo_of (mtq_43 fz) (tb3 118 rfl rfl) (by decide +kernel) ⟨by decide +kernel, by decide +kernel⟩ (by decide +kernel) (tb1 3 rfl rfl)
theorem mo_44 (fz : Bool) : rf_mo (cx0 fz) tb0 0 44 := mo_of (mtq_44 fz) (tb3 122 rfl rfl) (by decide +kernel) ⟨by decide +kernel, by decide +kernel⟩ (by decide +kernel) (tb1 3 rfl rfl)
theorem mo_45 (fz : Bool) : rf_mo (cx0 fz) tb0 1 45 := mo_of (mtq_45 fz) (tb3 126 rfl rfl) (by decide +kernel) ⟨by decide +kernel, by decide +kernel⟩ (by decide +kernel) (tb1 3 rfl rfl)
theorem mo_46 (fz : Bool) : rf_mo (cx0 fz) tb0 0 46 := mo_of (mtq_46 fz) (tb3 130 rfl rfl) (by decide +kernel) ⟨by decide +kernel, by decide +kernel⟩ (by decide +kernel) (tb1 3 rfl rfl)
theorem mo_47 (fz : Bool) : rf_mo (cx0 fz) tb0 1 47 := mo_of (mtq_47 fz) (tb3 134 rfl rfl) (by decide +kernel) ⟨by decide +kernel, by decide +kernel⟩ (by decide +kernel) (tb1 3 rfl rfl)
theorem mo_48 (fz : Bool) : rf_mo (cx0 fz) tb0 1 48 := mo_of (mtq_48 fz) (tb3 138 rfl rfl) (by decide +kernel) ⟨by decide +kernel, by decide +kernel⟩ (by decide +kernel) (tb1 3 rfl rfl)
theorem mo_49 (fz : Bool) : rf_mo (cx0 fz) tb0 1 49 := mo_of (mtq_49 fz) (tb3 142 rfl rfl) (by decide +kernel) ⟨by decide +kernel, by decide +kernel⟩ (by decide +kernel) (tb1 3 rfl rfl)
theorem mo_50 (fz : Bool) : rf_mo (cx0 fz) tb0 1 50 := mo_of (mtq_50 fz) (tb3 146 rfl rfl) (by decide +kernel) ⟨by decide +kernel, by decide +kernel⟩ (by decide +kernel) (tb1 3 rfl rfl)
theorem mo_51 (fz : Bool) : rf_mo (cx0 fz) tb0 2 51 := mo_of (mtq_51 fz) (tb3 150 rfl rfl) (by decide +kernel) ⟨by decide +kernel, by decide +kernel⟩ (by decide +kernel) (tb1 2 rfl rfl)
theorem mo_52 (fz : Bool) : rf_mo (cx0 fz) tb0 1 52 := mo_of (mtq_52 fz) (tb3 153 rfl rfl) (by decide +kernel) ⟨by decide +kernel, by decide +kernel⟩ (by decide +kernel) (tb1 1 rfl rfl)
theorem mo_53 (fz : Bool) : rf_mo (cx0 fz) tb0 3 53 := mo_of (mtq_53 fz) (tb3 157 rfl rfl) (by decide +kernel) ⟨by decide +kernel, by decide +kernel⟩ (by decide +kernel) (tb1 3 rfl rfl)
theorem mo_54 (fz : Bool) : rf_mo (cx0 fz) tb0 3 54 := mo_of (mtq_54 fz) (tb3 161 rfl rfl) (by decide +kernel) ⟨by decide +kernel, by decide +kernel⟩ (by decide +kernel) (tb1 3 rfl rfl)
theorem mo_55 (fz : Bool) : rf_mo (cx0 fz) tb0 0 55 := mo_of (mtq_55 fz) (tb3 168 rfl rfl) (by decide +kernel) ⟨by decide +kernel, by decide +kernel⟩ (by decide +kernel) (tb1 3 rfl rfl)
theorem mo_56 (fz : Bool) : rf_mo (cx0 fz) tb0 0 56 := mo_of (mtq_56 fz) (tb3 173 rfl rfl) (by decide +kernel) ⟨by decide +kernel, by decide +kernel⟩ (by decide +kernel) (tb1 1 rfl rfl)
theorem mo_57 (fz : Bool) : rf_mo (cx0 fz) tb0 2 57 := mo_of (mtq_57 fz) (tb3 177 rfl rfl) (by decide +kernel) ⟨by decide +kernel, by decide +kernel⟩ (by decide +kernel) (tb1 1 rfl rfl)
theorem mo_58 (fz : Bool) : rf_mo (cx0 fz) tb0 1 58 := mo_of (mtq_58 fz) (tb3 181 rfl rfl) (by decide +kernel) ⟨by decide +kernel, by decide +kernel⟩ (by decide +kernel) (tb1 1 rfl rfl)
theorem mo_59 (fz : Bool) : rf_mo (cx0 fz) tb0 2 59 := mo_of (mtq_59 fz) (tb3 185 rfl rfl) (by decide +kernel) ⟨by decide +kernel, by decide +kernel⟩ (by decide +kernel) (tb1 1 rfl rfl)
theorem mo_60 (fz : Bool) : rf_mo (cx0 fz) tb0 0 60 := mo_of (mtq_60 fz) (tb3 190 rfl rfl) (by decide +kernel) ⟨by decide +kernel, by decide +kernel⟩ (by decide +kernel) (tb1 11 rfl rfl)
theorem mo_61 (fz : Bool) : rf_mo (cx0 fz) tb0 2 61 := mo_of (mtq_61 fz) (tb3 194 rfl rfl) (by decide +kernel) ⟨by decide +kernel, by decide +kernel⟩ (by decide +kernel) (tb1 6 rfl rfl)
theorem mo_62 (fz : Bool) : rf_mo (cx0 fz) tb0 0 62 := mo_of (mtq_62 fz) (tb3 202 rfl rfl) (by decide +kernel) ⟨by decide +kernel, by decide +kernel⟩ (by decide +kernel) (tb1 6 rfl rfl)
theorem mo_63 (fz : Bool) : rf_mo (cx0 fz) tb0 2 63 := mo_of (mtq_63 fz) (tb3 206 rfl rfl) (by decide +kernel) ⟨by decide +kernel, by decide +kernel⟩ (by decide +kernel) (tb1 6 rfl rfl)
theorem mo_64 (fz : Bool) : rf_mo (cx0 fz) tb0 1 64 := mo_of (mtq_64 fz) (tb3 210 rfl rfl) (by decide +kernel) ⟨by decide +kernel, by decide +kernel⟩ (by decide +kernel) (tb1 2 rfl rfl)
theorem mo_65 (fz : Bool) : rf_mo (cx0 fz) tb0 3 65 := mo_of (mtq_65 fz) (tb3 214 rfl rfl) (by decide +kernel) ⟨by decide +kernel, by decide +kernel⟩ (by decide +kernel) (tb1 7 rfl rfl)
theorem mo_66 (fz : Bool) : rf_mo (cx0 fz) tb0 1 66 := mo_of (mtq_66 fz) (tb3 218 rfl rfl) (by decide +kernel) ⟨by decide +kernel, by decide +kernel⟩ (by decide +kernel) (tb1 7 rfl rfl)
theorem mo_67 (fz : Bool) : rf_mo (cx0 fz) tb0 1 67 := mo_of (mtq_67 fz) (tb3 224 rfl rfl) (by decide +kernel) ⟨by decide +kernel, by decide +kernel⟩ (by decide +kernel) (tb1 9 rfl rfl)
theorem mo_68 (fz : Bool) : rf_mo (cx0 fz) tb0 1 68 := mo_of (mtq_68 fz) (tb3 229 rfl rfl) (by decide +kernel) ⟨by decide +kernel, by decide +kernel⟩ (by decide +kernel) (tb1 10 rfl rfl)
theorem mo_69 (fz : Bool) : rf_mo (cx0 fz) tb0 1 69 := mo_of (mtq_69 fz) (tb3 233 rfl rfl) (by decide +kernel) ⟨by decide +kernel, by decide +kernel⟩ (by decide +kernel) (tb1 9 rfl rfl)
theorem mo_70 (fz : Bool) : rf_mo (cx0 fz) tb0 1 70 := mo_of (mtq_70 fz) (tb3 237 rfl rfl) (by decide +kernel) ⟨by decide +kernel, by decide +kernel⟩ (by decide +kernel) (tb1 9 rfl rfl)
theorem mo_71 (fz : Bool) : rf_mo (cx0 fz) tb0 0 71 := mo_of (mtq_71 fz) (tb4 1 rfl rfl) (by decide +kernel) ⟨by decide +kernel, by decide +kernel⟩ (by decide +kernel) (tb1 9 rfl rfl)
theorem mo_72 (fz : Bool) : rf_mo (cx0 fz) tb0 2 72 := mo_of (mtq_72 fz) (tb4 5 rfl rfl) (by decide +kernel) ⟨by decide +kernel, by decide +kernel⟩ (by decide +kernel) (tb1 6 rfl rfl)
theorem mo_73 (fz : Bool) : rf_mo (cx0 fz) tb0 1 73 := mo_of (mtq_73 fz) (tb4 8 rfl rfl) (by decide +kernel) ⟨by decide +kernel, by decide +kernel⟩ (by decide +kernel) (tb1 6 rfl rfl)
theorem mo_74 (fz : Bool) : rf_mo (cx0 fz) tb0 0 74 := mo_of (mtq_74 fz) (tb4 12 rfl rfl) (by decide +kernel) ⟨by decide +kernel, by decide +kernel⟩ (by decide +kernel) (tb1 7 rfl rfl)
theorem mo_75 (fz : Bool) : rf_mo (cx0 fz) tb0 3 75 := mo_of (mtq_75 fz) (tb4 15 rfl rfl) (by decide +kernel) ⟨by decide +kernel, by decide +kernel⟩ (by decide +kernel) (tb1 7 rfl rfl)
theorem mo_76 (fz : Bool) : rf_mo (cx0 fz) tb0 0 76 := mo_of (mtq_76 fz) (tb4 19 rfl rfl) (by decide +kernel) ⟨by decide +kernel, by decide +kernel⟩ (by decide +kernel) (tb1 7 rfl rfl)
theorem mo_77 (fz : Bool) : rf_mo (cx0 fz) tb0 2 77 := mo_of (mtq_77 fz) (tb4 23 rfl rfl) (by decide +kernel) ⟨by decide +kernel, by decide +kernel⟩ (by decide +kernel) (tb1 6 rfl rfl)
theorem mo_78 (fz : Bool) : rf_mo (cx0 fz) tb0 6 78 := mo_of (mtq_78 fz) (tb4 27 rfl rfl) (by decide +kernel) ⟨by decide +kernel, by decide +kernel⟩ (by decide +kernel) (tb1 11 rfl rfl)
theorem mo_79 (fz : Bool) : rf_mo (cx0 fz) tb0 1 79 := mo_of (mtq_79 fz) (tb4 32 rfl rfl) (by decide +kernel) ⟨by decide +kernel, by decide +kernel⟩ (by decide +kernel) (tb1 1 rfl rfl)
theorem mo_80 (fz : Bool) : rf_mo (cx0 fz) tb0 1 80 := mo_of (mtq_80 fz) (tb4 36 rfl rfl) (by decide +kernel) ⟨by decide +kernel, by decide +kernel⟩ (by decide +kernel) (tb1 1 rfl rfl)
theorem mo_81 (fz : Bool) : rf_mo (cx0 fz) tb0 2 81 := mo_of (mtq_81 fz) (tb4 40 rfl rfl) (by decide +kernel) ⟨by decide +kernel, by decide +kernel⟩ (by decide +kernel) (tb1 1 rfl rfl)
theorem mo_82 (fz : Bool) : rf_mo (cx0 fz) tb0 1 82 := mo_of (mtq_82 fz) (tb4 44 rfl rfl) (by decide +kernel) ⟨by decide +kernel, by decide +kernel⟩ (by decide +kernel) (tb1 1 rfl rfl)
theorem mo_83 (fz : Bool) : rf_mo (cx0 fz) tb0 1 83 := mo_of (mtq_83 fz) (tb4 48 rfl rfl) (by decide +kernel) ⟨by decide +kernel, by decide +kernel⟩ (by decide +kernel) (tb1 8 rfl rfl)
theorem mo_84 (fz : Bool) : rf_mo (cx0 fz) tb0 1 84 := mo_of (mtq_84 fz) (tb4 52 rfl rfl) (by decide +kernel) ⟨by decide +kernel, by decide +kernel⟩ (by decide +kernel) (tb1 1 rfl rfl)
theorem mo_85 (fz : Bool) : rf_mo (cx0 fz) tb0 1 85 := mo_of (mtq_85 fz) (tb4 56 rfl rfl) (by decide +kernel) ⟨by decide +kernel, by decide +kernel⟩ (by decide +kernel) (tb1 1 rfl rfl)
theorem mo_86 (fz : Bool) : rf_mo (cx0 fz) tb0 1 86 := mo_of (mtq_86 fz) (tb4 60 rfl rfl) (by decide +kernel) ⟨by decide +kernel, by decide +kernel⟩ (by decide +kernel) (tb1 8 rfl rfl)
theorem mo_87 (fz : Bool) : rf_mo (cx0 fz) tb0 1 87 := mo_of (mtq_87 fz) (tb4 65 rfl rfl) (by decide +kernel) ⟨by decide +kernel, by decide +kernel⟩ (by decide +kernel) (tb1 9 rfl rfl)
theorem mo_88 (fz : Bool) : rf_mo (cx0 fz) tb0 0 88 := mo_of (mtq_88 fz) (tb4 69 rfl rfl) (by decide +kernel) ⟨by decide +kernel, by decide +kernel⟩ (by decide +kernel) (tb1 10 rfl rfl)
theorem mo_89 (fz : Bool) : rf_mo (cx0 fz) tb0 2 89 := mo_of (mtq_89 fz) (tb4 72 rfl rfl) (by decide +kernel) ⟨by decide +kernel, by decide +kernel⟩ (by decide +kernel) (tb1 20 rfl rfl)
theorem mo_90 (fz : Bool) : rf_mo (cx0 fz) tb0 0 90 := mo_of (mtq_90 fz) (tb4 76 rfl rfl) (by decide +kernel) ⟨by decide +kernel, by decide +kernel⟩ (by decide +kernel) (tb1 9 rfl rfl)
theorem mo_91 (fz : Bool) : rf_mo (cx0 fz) tb0 1 91 := mo_of (mtq_91 fz) (tb4 82 rfl rfl) (by decide +kernel) ⟨by decide +kernel, by decide +kernel⟩ (by decide +kernel) (tb1 10 rfl rfl)
theorem mo_92 (fz : Bool) : rf_mo (cx0 fz) tb0 2 92 := mo_of (mtq_92 fz) (tb4 87 rfl rfl) (by decide +kernel) ⟨by decide +kernel, by decide +kernel⟩ (by decide +kernel) (tb1 2 rfl rfl)
theorem mo_93 (fz : Bool) : rf_mo (cx0 fz) tb0 1 93 := mo_of (mtq_93 fz) (tb4 92 rfl rfl) (by decide +kernel) ⟨by decide +kernel, by decide +kernel⟩ (by decide +kernel) (tb1 2 rfl rfl)
theorem mo_94 (fz : Bool) : rf_mo (cx0 fz) tb0 1 94 := mo_of (mtq_94 fz) (tb4 96 rfl rfl) (by decide +kernel) ⟨by decide +kernel, by decide +kernel⟩ (by decide +kernel) (tb1 10 rfl rfl)
theorem mo_95 (fz : Bool) : rf_mo (cx0 fz) tb0 0 95 := mo_of (mtq_95 fz) (tb4 101 rfl rfl) (by decide +kernel) ⟨by decide +kernel, by decide +kernel⟩ (by decide +kernel) (tb1 9 rfl rfl)
theorem mo_96 (fz : Bool) : rf_mo (cx0 fz) tb0 2 96 := mo_of (mtq_96 fz) (tb4 105 rfl rfl) (by decide +kernel) ⟨by decide +kernel, by decide +kernel⟩ (by decide +kernel) (tb1 2 rfl rfl)
theorem mo_97 (fz : Bool) : rf_mo (cx0 fz) tb0 1 97 := mo_of (mtq_97 fz) (tb4 109 rfl rfl) (by decide +kernel) ⟨by decide +kernel, by decide +kernel⟩ (by decide +kernel) (tb1 10 rfl rfl)
theorem mo_98 (fz : Bool) : rf_mo (cx0 fz) tb0 0 98 := mo_of (mtq_98 fz) (tb4 113 rfl rfl) (by decide +kernel) ⟨by decide +kernel, by decide +kernel⟩ (by decide +kernel) (tb1 9 rfl rfl)
theorem mo_99 (fz : Bool) : rf_mo (cx0 fz) tb0 1 99 := mo_of (mtq_99 fz) (tb4 119 rfl rfl) (by decide +kernel) ⟨by decide +kernel, by decide +kernel⟩ (by decide +kernel) (tb1 9 rfl rfl)
theorem mo_100 (fz : Bool) : rf_mo (cx0 fz) tb0 2 100 := mo_of (mtq_100 fz) (tb4 123 rfl rfl) (by decide +kernel) ⟨by decide +kernel, by decide +kernel⟩ (by decide +kernel) (tb1 10 rfl rfl)
theorem mo_101 (fz : Bool) : rf_mo (cx0 fz) tb0 0 101 := mo_of (mtq_101 fz) (tb4 130 rfl rfl) (by decide +kernel) ⟨by decide +kernel, by decide +kernel⟩ (by decide +kernel) (tb1 8 rfl rfl)
theorem mo_102 (fz : Bool) : rf_mo (cx0 fz) tb0 0 102 := mo_of (mtq_102 fz) (tb4 134 rfl rfl) (by decide +kernel) ⟨by decide +kernel, by decide +kernel⟩ (by decide +kernel) (tb1 8 rfl rfl)
theorem mo_103 (fz : Bool) : rf_mo (cx0 fz) tb0 1 103 := mo_of (mtq_103 fz) (tb4 139 rfl rfl) (by decide +kernel) ⟨by decide +kernel, by decide +kernel⟩ (by decide +kernel) (tb1 1 rfl rfl)
theorem mo_104 (fz : Bool) : rf_mo (cx0 fz) tb0 2 104 := mo_of (mtq_104 fz) (tb4 143 rfl rfl) (by decide +kernel) ⟨by decide +kernel, by decide +kernel⟩ (by decide +kernel) (tb1 1 rfl rfl)
theorem mo_105 (fz : Bool) : rf_mo (cx0 fz) tb0 2 105 := mo_of (mtq_105 fz) (tb4 147 rfl rfl) (by decide +kernel) ⟨by decide +kernel, by decide +kernel⟩ (by decide +kernel) (tb1 6 rfl rfl)
theorem mo_106 (fz : Bool) : rf_mo (cx0 fz) tb0 0 106 := mo_of (mtq_106 fz) (tb4 154 rfl rfl) (by decide +kernel) ⟨by decide +kernel, by decide +kernel⟩ (by decide +kernel) (tb1 8 rfl rfl)
theorem mo_107 (fz : Bool) : rf_mo (cx0 fz) tb0 0 107 := mo_of (mtq_107 fz) (tb4 158 rfl rfl) (by decide +kernel) ⟨by decide +kernel, by decide +kernel⟩ (by decide +kernel) (tb1 8 rfl rfl)
theorem mo_108 (fz : Bool) : rf_mo (cx0 fz) tb0 2 108 := mo_of (mtq_108 fz) (tb4 162 rfl rfl) (by decide +kernel) ⟨by decide +kernel, by decide +kernel⟩ (by decide +kernel) (tb1 1 rfl rfl)
theorem mo_109 (fz : Bool) : rf_mo (cx0 fz) tb0 2 109 := mo_of (mtq_109 fz) (tb4 168 rfl rfl) (by decide +kernel) ⟨by decide +kernel, by decide +kernel⟩ (by decide +kernel) (tb1 1 rfl rfl)
theorem mo_110 (fz : Bool) : rf_mo (cx0 fz) tb0 1 110 := mo_of (mtq_110 fz) (tb4 172 rfl rfl) (by decide +kernel) ⟨by decide +kernel, by decide +kernel⟩ (by decide +kernel) (tb1 8 rfl rfl)
theorem mo_111 (fz : Bool) : rf_mo (cx0 fz) tb0 2 111 := mo_of (mtq_111 fz) (tb4 176 rfl rfl) (by decide +kernel) ⟨by decide +kernel, by decide +kernel⟩ (by decide +kernel) (tb1 1 rfl rfl)
theorem mo_112 (fz : Bool) : rf_mo (cx0 fz) tb0 0 112 := mo_of (mtq_112 fz) (tb4 181 rfl rfl) (by decide +kernel) ⟨by decide +kernel, by decide +kernel⟩ (by decide +kernel) (tb1 1 rfl rfl)
theorem mo_113 (fz : Bool) : rf_mo (cx0 fz) tb0 0 113 := mo_of (mtq_113 fz) (tb4 185 rfl rfl) (by decide +kernel) ⟨by decide +kernel, by decide +kernel⟩ (by decide +kernel) (tb1 1 rfl rfl)
theorem mo_114 (fz : Bool) : rf_mo (cx0 fz) tb0 2 114 := mo_of (mtq_114 fz) (tb4 189 rfl rfl) (by decide +kernel) ⟨by decide +kernel, by decide +kernel⟩ (by decide +kernel) (tb1 1 rfl rfl)
theorem mo_115 (fz : Bool) : rf_mo (cx0 fz) tb0 2 115 := mo_of (mtq_115 fz) (tb4 193 rfl rfl) (by decide +kernel) ⟨by decide +kernel, by decide +kernel⟩ (by decide +kernel) (tb1 11 rfl rfl)
theorem mo_116 (fz : Bool) : rf_mo (cx0 fz) tb0 1 116 := mo_of (mtq_116 fz) (tb4 197 rfl rfl) (by decide +kernel) ⟨by decide +kernel, by decide +kernel⟩ (by decide +kernel) (tb1 11 rfl rfl)
theorem mo_117 (fz : Bool) : rf_mo (cx0 fz) tb0 1 117 := mo_of (mtq_117 fz) (tb4 201 rfl rfl) (by decide +kernel) ⟨by decide +kernel, by decide +kernel⟩ (by decide +kernel) (tb1 1 rfl rfl)
theorem mo_118 (fz : Bool) : rf_mo (cx0 fz) tb0 0 118 := mo_of (mtq_118 fz) (tb4 206 rfl rfl) (by decide +kernel) ⟨by decide +kernel, by decide +kernel⟩ (by decide +kernel) (tb1 1 rfl rfl)
theorem mo_119 (fz : Bool) : rf_mo (cx0 fz) tb0 2 119 := mo_of (mtq_119 fz) (tb4 210 rfl rfl) (by decide +kernel) ⟨by decide +kernel, by decide +kernel⟩ (by decide +kernel) (tb1 12 rfl rfl)
theorem mo_120 (fz : Bool) : rf_mo (cx0 fz) tb0 4 120 := mo_of (mtq_120 fz) (tb4 220 rfl rfl) (by decide +kernel) ⟨by decide +kernel, by decide +kernel⟩ (by decide +kernel) (tb1 12 rfl rfl)
theorem mo_121 (fz : Bool) : rf_mo (cx0 fz) tb0 1 121 := mo_of (mtq_121 fz) (tb4 225 rfl rfl) (by decide +kernel) ⟨by decide +kernel, by decide +kernel⟩ (by decide +kernel) (tb1 6 rfl rfl)
theorem mo_122 (fz : Bool) : rf_mo (cx0 fz) tb0 0 122 := mo_of (mtq_122 fz) (tb4 229 rfl rfl) (by decide +kernel) ⟨by decide +kernel, by decide +kernel⟩ (by decide +kernel) (tb1 1 rfl rfl)
theorem mo_123 (fz : Bool) : rf_mo (cx0 fz) tb0 0 123 := mo_of (mtq_123 fz) (tb4 233 rfl rfl) (by decide +kernel) ⟨by decide +kernel, by decide +kernel⟩ (by decide +kernel) (tb1 6 rfl rfl)
theorem mo_124 (fz : Bool) : rf_mo (cx0 fz) tb0 2 124 := mo_of (mtq_124 fz) (tb4 237 rfl rfl) (by decide +kernel) ⟨by decide +kernel, by decide +kernel⟩ (by decide +kernel) (tb1 20 rfl rfl)
theorem mo_125 (fz : Bool) : rf_mo (cx0 fz) tb0 0 125 := mo_of (mtq_125 fz) (tb5 1 rfl rfl) (by decide +kernel) ⟨by decide +kernel, by decide +kernel⟩ (by decide +kernel) (tb1 12 rfl rfl)
theorem mo_126 (fz : Bool) : rf_mo (cx0 fz) tb0 0 126 := mo_of (mtq_126 fz) (tb5 6 rfl rfl) (by decide +kernel) ⟨by decide +kernel, by decide +kernel⟩ (by decide +kernel) (tb1 8 rfl rfl)
theorem mo_127 (fz : Bool) : rf_mo (cx0 fz) tb0 0 127 := mo_of (mtq_127 fz) (tb5 11 rfl rfl) (by decide +kernel) ⟨by decide +kernel, by decide +kernel⟩ (by decide +kernel) (tb1 13 rfl rfl)
theorem mo_128 (fz : Bool) : rf_mo (cx0 fz) tb0 5 128 := mo_of (mtq_128 fz) (tb6 6 rfl rfl) (by decide +kernel) ⟨by decide +kernel, by decide +kernel⟩ (by decide +kernel) (tb1 13 rfl rfl)
theorem mo_129 (fz : Bool) : rf_mo (cx0 fz) tb0 1 129 := mo_of (mtq_129 fz) (tb6 10 rfl rfl) (by decide +kernel) ⟨by decide +kernel, by decide +kernel⟩ (by decide +kernel) (tb1 13 rfl rfl)
theorem mo_130 (fz : Bool) : rf_mo (cx0 fz) tb0 0 130 := mo_of (mtq_130 fz) (tb6 14 rfl rfl) (by decide +kernel) ⟨by decide +kernel, by decide +kernel⟩ (by decide +kernel) (tb1 13 rfl rfl)
theorem mo_131 (fz : Bool) : rf_mo (cx0 fz) tb0 0 131 := mo_of (mtq_131 fz) (tb6 18 rfl rfl) (by decide +kernel) ⟨by decide +kernel, by decide +kernel⟩ (by decide +kernel) (tb1 13 rfl rfl)
theorem mo_132 (fz : Bool) : rf_mo (cx0 fz) tb0 0 132 := mo_of (mtq_132 fz) (tb6 22 rfl rfl) (by decide +kernel) ⟨by decide +kernel, by decide +kernel⟩ (by decide +kernel) (tb1 13 rfl rfl)
theorem mo_133 (fz : Bool) : rf_mo (cx0 fz) tb0 1 133 := mo_of (mtq_133 fz) (tb6 26 rfl rfl) (by decide +kernel) ⟨by decide +kernel, by decide +kernel⟩ (by decide +kernel) (tb1 13 rfl rfl)
theorem mo_134 (fz : Bool) : rf_mo (cx0 fz) tb0 1 134 := mo_of (mtq_134 fz) (tb6 29 rfl rfl) (by decide +kernel) ⟨by decide +kernel, by decide +kernel⟩ (by decide +kernel) (tb1 13 rfl rfl)
theorem mo_135 (fz : Bool) : rf_mo (cx0 fz) tb0 1 135 := mo_of (mtq_135 fz) (tb6 32 rfl rfl) (by decide +kernel) ⟨by decide +kernel, by decide +kernel⟩ (by decide +kernel) (tb1 13 rfl rfl)
theorem mo_136 (fz : Bool) : rf_mo (cx0 fz) tb0 1 136 := mo_of (mtq_136 fz) (tb6 45 rfl rfl) (by decide +kernel) ⟨by decide +kernel, by decide +kernel⟩ (by decide +kernel) (tb1 13 rfl rfl)
theorem mo_137 (fz : Bool) : rf_mo (cx0 fz) tb0 1 137 := mo_of (mtq_137 fz) (tb6 50 rfl rfl) (by decide +kernel) ⟨by decide +kernel, by decide +kernel⟩ (by decide +kernel) (tb1 13 rfl rfl)
theorem mo_138 (fz : Bool) : rf_mo (cx0 fz) tb0 1 138 := mo_of (mtq_138 fz) (tb6 54 rfl rfl) (by decide +kernel) ⟨by decide +kernel, by decide +kernel⟩ (by decide +kernel) (tb1 13 rfl rfl)
theorem mo_139 (fz : Bool) : rf_mo (cx0 fz) tb0 0 139 := mo_of (mtq_139 fz) (tb6 58 rfl rfl) (by decide +kernel) ⟨by decide +kernel, by decide +kernel⟩ (by decide +kernel) (tb1 13 rfl rfl)
theorem mo_140 (fz : Bool) : rf_mo (cx0 fz) tb0 0 140 := mo_of (mtq_140 fz) (tb6 62 rfl rfl) (by decide +kernel) ⟨by decide +kernel, by decide +kernel⟩ (by decide +kernel) (tb1 13 rfl rfl)
theorem mo_141 (fz : Bool) : rf_mo (cx0 fz) tb0 2 141 := mo_of (mtq_141 fz) (tb6 66 rfl rfl) (by decide +kernel) ⟨by decide +kernel, by decide +kernel⟩ (by decide +kernel) (tb1 13 rfl rfl)
theorem mo_142 (fz : Bool) : rf_mo (cx0 fz) tb0 1 142 := mo_of (mtq_142 fz) (tb6 70 rfl rfl) (by decide +kernel) ⟨by decide +kernel, by decide +kernel⟩ (by decide +kernel) (tb1 13 rfl rfl)
theorem mo_143 (fz : Bool) : rf_mo (cx0 fz) tb0 0 143 := mo_of (mtq_143 fz) (tb6 74 rfl rfl) (by decide +kernel) ⟨by decide +kernel, by decide +kernel⟩ (by decide +kernel) (tb1 13 rfl rfl)
theorem mo_144 (fz : Bool) : rf_mo (cx0 fz) tb0 0 144 := mo_of (mtq_144 fz) (tb6 78 rfl rfl) (by decide +kernel) ⟨by decide +kernel, by decide +kernel⟩ (by decide +kernel) (tb1 13 rfl rfl)
theorem mo_145 (fz : Bool) : rf_mo (cx0 fz) tb0 1 145 := mo_of (mtq_145 fz) (tb6 82 rfl rfl) (by decide +kernel) ⟨by decide +kernel, by decide +kernel⟩ (by decide +kernel) (tb1 13 rfl rfl)
theorem mo_146 (fz : Bool) : rf_mo (cx0 fz) tb0 1 146 := mo_of (mtq_146 fz) (tb6 86 rfl rfl) (by decide +kernel) ⟨by decide +kernel, by decide +kernel⟩ (by decide +kernel) (tb1 13 rfl rfl)
theorem mo_147 (fz : Bool) : rf_mo (cx0 fz) tb0 1 147 := mo_of (mtq_147 fz) (tb6 90 rfl rfl) (by decide +kernel) ⟨by decide +kernel, by decide +kernel⟩ (by decide +kernel) (tb1 13 rfl rfl)
theorem mo_148 (fz : Bool) : rf_mo (cx0 fz) tb0 3 148 := mo_of (mtq_148 fz) (tb6 94 rfl rfl) (by decide +kernel) ⟨by decide +kernel, by decide +kernel⟩ (by decide +kernel) (tb1 13 rfl rfl)
theorem mo_149 (fz : Bool) : rf_mo (cx0 fz) tb0 0 149 := mo_of (mtq_149 fz) (tb6 98 rfl rfl) (by decide +kernel) ⟨by decide +kernel, by decide +kernel⟩ (by decide +kernel) (tb1 13 rfl rfl)
theorem mo_150 (fz : Bool) : rf_mo (cx0 fz) tb0 1 150 := mo_of (mtq_150 fz) (tb6 102 rfl rfl) (by decide +kernel) ⟨by decide +kernel, by decide +kernel⟩ (by decide +kernel) (tb1 13 rfl rfl)
theorem mo_151 (fz : Bool) : rf_mo (cx0 fz) tb0 1 151 := mo_of (mtq_151 fz) (tb6 105 rfl rfl) (by decide +kernel) ⟨by decide +kernel, by decide +kernel⟩ (by decide +kernel) (tb1 13 rfl rfl)
theorem mo_152 (fz : Bool) : rf_mo (cx0 fz) tb0 0 152 := mo_of (mtq_152 fz) (tb6 109 rfl rfl) (by decide +kernel) ⟨by decide +kernel, by decide +kernel⟩ (by decide +kernel) (tb1 13 rfl rfl)
theorem mo_153 (fz : Bool) : rf_mo (cx0 fz) tb0 2 153 := mo_of (mtq_153 fz) (tb6 113 rfl rfl) (by decide +kernel) ⟨by decide +kernel, by decide +kernel⟩ (by decide +kernel) (tb1 13 rfl rfl)
theorem mo_154 (fz : Bool) : rf_mo (cx0 fz) tb0 1 154 := mo_of (mtq_154 fz) (tb6 117 rfl rfl) (by decide +kernel) ⟨by decide +kernel, by decide +kernel⟩ (by decide +kernel) (tb1 13 rfl rfl)
theorem mo_155 (fz : Bool) : rf_mo (cx0 fz) tb0 1 155 := mo_of (mtq_155 fz) (tb6 121 rfl rfl) (by decide +kernel) ⟨by decide +kernel, by decide +kernel⟩ (by decide +kernel) (tb1 13 rfl rfl)
theorem mo_156 (fz : Bool) : rf_mo (cx0 fz) tb0 1 156 := mo_of (mtq_156 fz) (tb6 125 rfl rfl) (by decide +kernel) ⟨by decide +kernel, by decide +kernel⟩ (by decide +kernel) (tb1 13 rfl rfl)
theorem mo_157 (fz : Bool) : rf_mo (cx0 fz) tb0 1 157 := mo_of (mtq_157 fz) (tb6 129 rfl rfl) (by decide +kernel) ⟨by decide +kernel, by decide +kernel⟩ (by decide +kernel) (tb1 13 rfl rfl)
theorem mo_158 (fz : Bool) : rf_mo (cx0 fz) tb0 0 158 := mo_of (mtq_158 fz) (tb6 133 rfl rfl) (by decide +kernel) ⟨by decide +kernel, by decide +kernel⟩ (by decide +kernel) (tb1 13 rfl rfl)
theorem mo_159 (fz : Bool) : rf_mo (cx0 fz) tb0 1 159 := mo_of (mtq_159 fz) (tb6 137 rfl rfl) (by decide +kernel) ⟨by decide +kernel, by decide +kernel⟩ (by decide +kernel) (tb1 13 rfl rfl)
theorem mo_160 (fz : Bool) : rf_mo (cx0 fz) tb0 1 160 := mo_of (mtq_160 fz) (tb6 141 rfl rfl) (by decide +kernel) ⟨by decide +kernel, by decide +kernel⟩ (by decide +kernel) (tb1 13 rfl rfl)
theorem mo_161 (fz : Bool) : rf_mo (cx0 fz) tb0 1 161 := mo_of (mtq_161 fz) (tb6 145 rfl rfl) (by decide +kernel) ⟨by decide +kernel, by decide +kernel⟩ (by decide +kernel) (tb1 13 rfl rfl)
theorem mo_162 (fz : Bool) : rf_mo (cx0 fz) tb0 0 162 := mo_of (mtq_162 fz) (tb6 149 rfl rfl) (by decide +kernel) ⟨by decide +kernel, by decide +kernel⟩ (by decide +kernel) (tb1 13 rfl rfl)
theorem mo_163 (fz : Bool) : rf_mo (cx0 fz) tb0 2 163 := mo_of (mtq_163 fz) (tb6 153 rfl rfl) (by decide +kernel) ⟨by decide +kernel, by decide +kernel⟩ (by decide +kernel) (tb1 13 rfl rfl)
theorem mo_164 (fz : Bool) : rf_mo (cx0 fz) tb0 1 164 := mo_of (mtq_164 fz) (tb6 157 rfl rfl) (by decide +kernel) ⟨by decide +kernel, by decide +kernel⟩ (by decide +kernel) (tb1 13 rfl rfl)
theorem mo_165 (fz : Bool) : rf_mo (cx0 fz) tb0 3 165 := mo_of (mtq_165 fz) (tb6 161 rfl rfl) (by decide +kernel) ⟨by decide +kernel, by decide +kernel⟩ (by decide +kernel) (tb1 13 rfl rfl)
theorem mo_166 (fz : Bool) : rf_mo (cx0 fz) tb0 1 166 := mo_of (mtq_166 fz) (tb6 166 rfl rfl) (by decide +kernel) ⟨by decide +kernel, by decide +kernel⟩ (by decide +kernel) (tb1 13 rfl rfl)
theorem mo_167 (fz : Bool) : rf_mo (cx0 fz) tb0 2 167 := mo_of (mtq_167 fz) (tb6 170 rfl rfl) (by decide +kernel) ⟨by decide +kernel, by decide +kernel⟩ (by decide +kernel) (tb1 13 rfl rfl)
theorem mo_168 (fz : Bool) : rf_mo (cx0 fz) tb0 1 168 := mo_of (mtq_168 fz) (tb6 174 rfl rfl) (by decide +kernel) ⟨by decide +kernel, by decide +kernel⟩ (by decide +kernel) (tb1 13 rfl rfl)
theorem mo_169 (fz : Bool) : rf_mo (cx0 fz) tb0 2 169 := mo_of (mtq_169 fz) (tb6 178 rfl rfl) (by decide +kernel) ⟨by decide +kernel, by decide +kernel⟩ (by decide +kernel) (tb1 13 rfl rfl)
theorem mo_170 (fz : Bool) : rf_mo (cx0 fz) tb0 1 170 := mo_of (mtq_170 fz) (tb6 182 rfl rfl) (by decide +kernel) ⟨by decide +kernel, by decide +kernel⟩ (by decide +kernel) (tb1 13 rfl rfl)
theorem mo_171 (fz : Bool) : rf_mo (cx0 fz) tb0 1 171 := mo_of (mtq_171 fz) (tb6 186 rfl rfl) (by decide +kernel) ⟨by decide +kernel, by decide +kernel⟩ (by decide +kernel) (tb1 13 rfl rfl)
theorem mo_172 (fz : Bool) : rf_mo (cx0 fz) tb0 1 172 := mo_of (mtq_172 fz) (tb6 190 rfl rfl) (by decide +kernel) ⟨by decide +kernel, by decide +kernel⟩ (by decide +kernel) (tb1 13 rfl rfl)
theorem mo_173 (fz : Bool) : rf_mo (cx0 fz) tb0 1 173 := mo_of (mtq_173 fz) (tb6 195 rfl rfl) (by decide +kernel) ⟨by decide +kernel, by decide +kernel⟩ (by decide +kernel) (tb1 13 rfl rfl)
theorem mo_174 (fz : Bool) : rf_mo (cx0 fz) tb0 1 174 := mo_of (mtq_174 fz) (tb6 199 rfl rfl) (by decide +kernel) ⟨by decide +kernel, by decide +kernel⟩ (by decide +kernel) (tb1 13 rfl rfl)
theorem mo_175 (fz : Bool) : rf_mo (cx0 fz) tb0 1 175 := mo_of (mtq_175 fz) (tb6 203 rfl rfl) (by decide +kernel) ⟨by decide +kernel, by decide +kernel⟩ (by decide +kernel) (tb1 13 rfl rfl)
theorem mo_176 (fz : Bool) : rf_mo (cx0 fz) tb0 2 176 := mo_of (mtq_176 fz) (tb6 207 rfl rfl) (by decide +kernel) ⟨by decide +kernel, by decide +kernel⟩ (by decide +kernel) (tb1 13 rfl rfl)
theorem mo_177 (fz : Bool) : rf_mo (cx0 fz) tb0 6 177 := mo_of (mtq_177 fz) (tb6 211 rfl rfl) (by decide +kernel) ⟨by decide +kernel, by decide +kernel⟩ (by decide +kernel) (tb1 13 rfl rfl)
theorem mo_178 (fz : Bool) : rf_mo (cx0 fz) tb0 1 178 := mo_of (mtq_178 fz) (tb6 215 rfl rfl) (by decide +kernel) ⟨by decide +kernel, by decide +kernel⟩ (by decide +kernel) (tb1 13 rfl rfl)
theorem mo_179 (fz : Bool) : rf_mo (cx0 fz) tb0 0 179 := mo_of (mtq_179 fz) (tb6 219 rfl rfl) (by decide +kernel) ⟨by decide +kernel, by decide +kernel⟩ (by decide +kernel) (tb1 13 rfl rfl)
theorem mo_180 (fz : Bool) : rf_mo (cx0 fz) tb0 0 180 := mo_of (mtq_180 fz) (tb6 223 rfl rfl) (by decide +kernel) ⟨by decide +kernel, by decide +kernel⟩ (by decide +kernel) (tb1 13 rfl rfl)
theorem mo_181 (fz : Bool) : rf_mo (cx0 fz) tb0 1 181 := mo_of (mtq_181 fz) (tb6 227 rfl rfl) (by decide +kernel) ⟨by decide +kernel, by decide +kernel⟩ (by decide +kernel) (tb1 13 rfl rfl)
theorem mo_182 (fz : Bool) : rf_mo (cx0 fz) tb0 0 182 := mo_of (mtq_182 fz) (tb6 232 rfl rfl) (by decide +kernel) ⟨by decide +kernel, by decide +kernel⟩ (by decide +kernel) (tb1 13 rfl rfl)
theorem mo_183 (fz : Bool) : rf_mo (cx0 fz) tb0 2 183 := mo_of (mtq_183 fz) (tb6 236 rfl rfl) (by decide +kernel) ⟨by decide +kernel, by decide +kernel⟩ (by decide +kernel) (tb1 13 rfl rfl)
theorem mo_184 (fz : Bool) : rf_mo (cx0 fz) tb0 2 184 := mo_of (mtq_184 fz) (tb7 2 rfl rfl) (by decide +kernel) ⟨by decide +kernel, by decide +kernel⟩ (by decide +kernel) (tb1 13 rfl rfl)
theorem mo_185 (fz : Bool) : rf_mo (cx0 fz) tb0 1 185 := mo_of (mtq_185 fz) (tb7 6 rfl rfl) (by decide +kernel) ⟨by decide +kernel, by decide +kernel⟩ (by decide +kernel) (tb1 13 rfl rfl)
theorem mo_186 (fz : Bool) : rf_mo (cx0 fz) tb0 1 186 := mo_of (mtq_186 fz) (tb7 10 rfl rfl) (by decide +kernel) ⟨by decide +kernel, by decide +kernel⟩ (by decide +kernel) (tb1 13 rfl rfl)
theorem mo_187 (fz : Bool) : rf_mo (cx0 fz) tb0 2 187 := mo_of (mtq_187 fz) (tb7 14 rfl rfl) (by decide +kernel) ⟨by decide +kernel, by decide +kernel⟩ (by decide +kernel) (tb1 13 rfl rfl)
theorem mo_188 (fz : Bool) : rf_mo (cx0 fz) tb0 2 188 := mo_of (mtq_188 fz) (tb7 18 rfl rfl) (by decide +kernel) ⟨by decide +kernel, by decide +kernel⟩ (by decide +kernel) (tb1 13 rfl rfl)
theorem mo_189 (fz : Bool) : rf_mo (cx0 fz) tb0 2 189 := mo_of (mtq_189 fz) (tb7 22 rfl rfl) (by decide +kernel) ⟨by decide +kernel, by decide +kernel⟩ (by decide +kernel) (tb1 13 rfl rfl)
theorem mo_190 (fz : Bool) : rf_mo (cx0 fz) tb0 0 190 := mo_of (mtq_190 fz) (tb7 26 rfl rfl) (by decide +kernel) ⟨by decide +kernel, by decide +kernel⟩ (by decide +kernel) (tb1 13 rfl rfl)
theorem mo_191 (fz : Bool) : rf_mo (cx0 fz) tb0 0 191 := mo_of (mtq_191 fz) (tb7 30 rfl rfl) (by decide +kernel) ⟨by decide +kernel, by decide +kernel⟩ (by decide +kernel) (tb1 13 rfl rfl)
theorem mo_192 (fz : Bool) : rf_mo (cx0 fz) tb0 2 192 := mo_of (mtq_192 fz) (tb7 34 rfl rfl) (by decide +kernel) ⟨by decide +kernel, by decide +kernel⟩ (by decide +kernel) (tb1 13 rfl rfl)
theorem mo_193 (fz : Bool) : rf_mo (cx0 fz) tb0 1 193 := mo_of (mtq_193 fz) (tb7 38 rfl rfl) (by decide +kernel) ⟨by decide +kernel, by decide +kernel⟩ (by decide +kernel) (tb1 13 rfl rfl)
theorem mo_194 (fz : Bool) : rf_mo (cx0 fz) tb0 0 194 := mo_of (mtq_194 fz) (tb7 42 rfl rfl) (by decide +kernel) ⟨by decide +kernel, by decide +kernel⟩ (by decide +kernel) (tb1 13 rfl rfl)
theorem mo_195 (fz : Bool) : rf_mo (cx0 fz) tb0 1 195 := mo_of (mtq_195 fz) (tb7 46 rfl rfl) (by decide +kernel) ⟨by decide +kernel, by decide +kernel⟩ (by decide +kernel) (tb1 13 rfl rfl)
theorem mo_196 (fz : Bool) : rf_mo (cx0 fz) tb0 1 196 := mo_of (mtq_196 fz) (tb7 50 rfl rfl) (by decide +kernel) ⟨by decide +kernel, by decide +kernel⟩ (by decide +kernel) (tb1 13 rfl rfl)
theorem mo_197 (fz : Bool) : rf_mo (cx0 fz) tb0 0 197 := mo_of (mtq_197 fz) (tb7 54 rfl rfl) (by decide +kernel) ⟨by decide +kernel, by decide +kernel⟩ (by decide +kernel) (tb1 13 rfl rfl)
theorem lq_0_0 (fz : Bool) (nm : String) : rf_wk (cx0 fz) ocl0 tb0 sp0 str0 (stt0 fz) "MemoryTransactionsLaw" nm (.new 7, [(0, 0)]) := wk_new (r := cq_0) rfl (tb1 21 rfl rfl) (tb1 22 rfl rfl) (tb1 1 rfl rfl)
theorem lq_0_1 (fz : Bool) (nm : String) : rf_wk (cx0 fz) ocl0 tb0 sp0 str0 (stt0 fz) "MemoryTransactionsLaw" nm (.invokespecial 9, [(0, 0), (0, 1)]) := wk_is (mtq_1 fz) (mo_1 fz) (tb1 24 rfl rfl) rfl (tb1 23 rfl rfl)
theorem lq_0_2 (fz : Bool) (nm : String) : rf_wk (cx0 fz) ocl0 tb0 sp0 str0 (stt0 fz) "MemoryTransactionsLaw" nm (.new 10, [(0, 11)]) := wk_new (r := cq_11) rfl (tb5 7 rfl rfl) (tb5 8 rfl rfl) (tb1 13 rfl rfl)
theorem lq_0_3 (fz : Bool) (nm : String) : rf_wk (cx0 fz) ocl0 tb0 sp0 str0 (stt0 fz) "MemoryTransactionsLaw" nm (.invokespecial 12, [(0, 0), (0, 127)]) := wk_is (mtq_127 fz) (mo_127 fz) (tb5 10 rfl rfl) rfl (tb5 9 rfl rfl)
theorem lq_0_4 (fz : Bool) (nm : String) : rf_wk (cx0 fz) ocl0 tb0 sp0 str0 (stt0 fz) "MemoryTransactionsLaw" nm (.invokevirtual 13, [(0, 5), (0, 13)]) := wk_iv (ci := 0) (r := cq_0) rfl (mtq_13 fz) (mo_13 fz) (tb2 207 rfl rfl) (tb2 206 rfl rfl) (tb2 208 rfl rfl)
theorem lq_0_5 (fz : Bool) (nm : String) : rf_wk (cx0 fz) ocl0 tb0 sp0 str0 (stt0 fz) "MemoryTransactionsLaw" nm (.invokevirtual 17, [(0, 5), (11, 128)]) := wk_iv (ci := 11) (r := cq_11) rfl (mtq_128 fz) (mo_128 fz) (tb6 4 rfl rfl) (tb6 3 rfl rfl) (tb6 5 rfl rfl)
theorem lq_0_6 (fz : Bool) (nm : String) : rf_wk (cx0 fz) ocl0 tb0 sp0 str0 (stt0 fz) "MemoryTransactionsLaw" nm (.invokevirtual 18, [(0, 1), (0, 15)]) := wk_iv (ci := 0) (r := cq_0) rfl (mtq_15 fz) (mo_15 fz) (tb2 215 rfl rfl) (tb2 214 rfl rfl) (tb2 216 rfl rfl)
theorem lq_0_7 (fz : Bool) (nm : String) : rf_wk (cx0 fz) ocl0 tb0 sp0 str0 (stt0 fz) "MemoryTransactionsLaw" nm (.invokevirtual 22, [(0, 1), (11, 129)]) := wk_iv (ci := 11) (r := cq_11) rfl (mtq_129 fz) (mo_129 fz) (tb6 8 rfl rfl) (tb6 7 rfl rfl) (tb6 9 rfl rfl)
theorem lq_0_8 (fz : Bool) (nm : String) : rf_wk (cx0 fz) ocl0 tb0 sp0 str0 (stt0 fz) "MemoryTransactionsLaw" nm (.invokevirtual 23, [(0, 0), (0, 16)]) := wk_iv (ci := 0) (r := cq_0) rfl (mtq_16 fz) (mo_16 fz) (tb2 219 rfl rfl) (tb2 218 rfl rfl) (tb2 220 rfl rfl)
theorem lq_0_9 (fz : Bool) (nm : String) : rf_wk (cx0 fz) ocl0 tb0 sp0 str0 (stt0 fz) "MemoryTransactionsLaw" nm (.invokevirtual 27, [(0, 0), (11, 130)]) := wk_iv (ci := 11) (r := cq_11) rfl (mtq_130 fz) (mo_130 fz) (tb6 12 rfl rfl) (tb6 11 rfl rfl) (tb6 13 rfl rfl)
theorem lq_0_10 (fz : Bool) (nm : String) : rf_wk (cx0 fz) ocl0 tb0 sp0 str0 (stt0 fz) "MemoryTransactionsLaw" nm (.invokevirtual 28, [(0, 0), (0, 56)]) := wk_iv (ci := 0) (r := cq_0) rfl (mtq_56 fz) (mo_56 fz) (tb3 171 rfl rfl) (tb3 170 rfl rfl) (tb3 172 rfl rfl)
theorem lq_0_11 (fz : Bool) (nm : String) : rf_wk (cx0 fz) ocl0 tb0 sp0 str0 (stt0 fz) "MemoryTransactionsLaw" nm (.invokevirtual 31, [(0, 0), (11, 152)]) := wk_iv (ci := 11) (r := cq_11) rfl (mtq_152 fz) (mo_152 fz) (tb6 107 rfl rfl) (tb6 106 rfl rfl) (tb6 108 rfl rfl)
theorem lq_0_12 (fz : Bool) (nm : String) : rf_wk (cx0 fz) ocl0 tb0 sp0 str0 (stt0 fz) "MemoryTransactionsLaw" nm (.invokevirtual 32, [(0, 2), (0, 57)]) := wk_iv (ci := 0) (r := cq_0) rfl (mtq_57 fz) (mo_57 fz) (tb3 175 rfl rfl) (tb3 174 rfl rfl) (tb3 176 rfl rfl)
theorem lq_0_13 (fz : Bool) (nm : String) : rf_wk (cx0 fz) ocl0 tb0 sp0 str0 (stt0 fz) "MemoryTransactionsLaw" nm (.invokevirtual 36, [(0, 2), (11, 153)]) := wk_iv (ci := 11) (r := cq_11) rfl (mtq_153 fz) (mo_153 fz) (tb6 111 rfl rfl) (tb6 110 rfl rfl) (tb6 112 rfl rfl)
theorem lq_0_14 (fz : Bool) (nm : String) : rf_wk (cx0 fz) ocl0 tb0 sp0 str0 (stt0 fz) "MemoryTransactionsLaw" nm (.ldc2_w 37, [(1, 4294967295)]) := wk_l2 (tb7 55 rfl rfl)
theorem lq_0_15 (fz : Bool) (nm : String) : rf_wk (cx0 fz) ocl0 tb0 sp0 str0 (stt0 fz) "MemoryTransactionsLaw" nm (.invokevirtual 39, [(0, 2), (0, 59)]) := wk_iv (ci := 0) (r := cq_0) rfl (mtq_59 fz) (mo_59 fz) (tb3 183 rfl rfl) (tb3 182 rfl rfl) (tb3 184 rfl rfl)
theorem lq_0_16 (fz : Bool) (nm : String) : rf_wk (cx0 fz) ocl0 tb0 sp0 str0 (stt0 fz) "MemoryTransactionsLaw" nm (.invokevirtual 43, [(0, 2), (11, 184)]) := wk_iv (ci := 11) (r := cq_11) rfl (mtq_184 fz) (mo_184 fz) (tb7 0 rfl rfl) (tb6 239 rfl rfl) (tb7 1 rfl rfl)
theorem lq_0_17 (fz : Bool) (nm : String) : rf_wk (cx0 fz) ocl0 tb0 sp0 str0 (stt0 fz) "MemoryTransactionsLaw" nm (.invokevirtual 44, [(0, 1), (0, 79)]) := wk_iv (ci := 0) (r := cq_0) rfl (mtq_79 fz) (mo_79 fz) (tb4 30 rfl rfl) (tb4 29 rfl rfl) (tb4 31 rfl rfl)
theorem lq_0_18 (fz : Bool) (nm : String) : rf_wk (cx0 fz) ocl0 tb0 sp0 str0 (stt0 fz) "MemoryTransactionsLaw" nm (.invokevirtual 48, [(0, 1), (11, 185)]) := wk_iv (ci := 11) (r := cq_11) rfl (mtq_185 fz) (mo_185 fz) (tb7 4 rfl rfl) (tb7 3 rfl rfl) (tb7 5 rfl rfl)
theorem lq_0_19 (fz : Bool) (nm : String) : rf_wk (cx0 fz) ocl0 tb0 sp0 str0 (stt0 fz) "MemoryTransactionsLaw" nm (.invokevirtual 49, [(0, 1), (0, 80)]) := wk_iv (ci := 0) (r := cq_0) rfl (mtq_80 fz) (mo_80 fz) (tb4 34 rfl rfl) (tb4 33 rfl rfl) (tb4 35 rfl rfl)
theorem lq_0_20 (fz : Bool) (nm : String) : rf_wk (cx0 fz) ocl0 tb0 sp0 str0 (stt0 fz) "MemoryTransactionsLaw" nm (.invokevirtual 52, [(0, 1), (11, 186)]) := wk_iv (ci := 11) (r := cq_11) rfl (mtq_186 fz) (mo_186 fz) (tb7 8 rfl rfl) (tb7 7 rfl rfl) (tb7 9 rfl rfl)
theorem lq_0_21 (fz : Bool) (nm : String) : rf_wk (cx0 fz) ocl0 tb0 sp0 str0 (stt0 fz) "MemoryTransactionsLaw" nm (.invokevirtual 53, [(0, 2), (0, 81)]) := wk_iv (ci := 0) (r := cq_0) rfl (mtq_81 fz) (mo_81 fz) (tb4 38 rfl rfl) (tb4 37 rfl rfl) (tb4 39 rfl rfl)
theorem lq_0_22 (fz : Bool) (nm : String) : rf_wk (cx0 fz) ocl0 tb0 sp0 str0 (stt0 fz) "MemoryTransactionsLaw" nm (.invokevirtual 56, [(0, 2), (11, 187)]) := wk_iv (ci := 11) (r := cq_11) rfl (mtq_187 fz) (mo_187 fz) (tb7 12 rfl rfl) (tb7 11 rfl rfl) (tb7 13 rfl rfl)
theorem lq_0_23 (fz : Bool) (nm : String) : rf_wk (cx0 fz) ocl0 tb0 sp0 str0 (stt0 fz) "MemoryTransactionsLaw" nm (.invokevirtual 57, [(0, 1), (0, 84)]) := wk_iv (ci := 0) (r := cq_0) rfl (mtq_84 fz) (mo_84 fz) (tb4 50 rfl rfl) (tb4 49 rfl rfl) (tb4 51 rfl rfl)
theorem lq_0_24 (fz : Bool) (nm : String) : rf_wk (cx0 fz) ocl0 tb0 sp0 str0 (stt0 fz) "MemoryTransactionsLaw" nm (.invokevirtual 60, [(0, 1), (11, 154)]) := wk_iv (ci := 11) (r := cq_11) rfl (mtq_154 fz) (mo_154 fz) (tb6 115 rfl rfl) (tb6 114 rfl rfl) (tb6 116 rfl rfl)
theorem lq_0_25 (fz : Bool) (nm : String) : rf_wk (cx0 fz) ocl0 tb0 sp0 str0 (stt0 fz) "MemoryTransactionsLaw" nm (.invokevirtual 61, [(0, 2), (0, 108)]) := wk_iv (ci := 0) (r := cq_0) rfl (mtq_108 fz) (mo_108 fz) (tb4 160 rfl rfl) (tb4 159 rfl rfl) (tb4 161 rfl rfl)
theorem lq_0_26 (fz : Bool) (nm : String) : rf_wk (cx0 fz) ocl0 tb0 sp0 str0 (stt0 fz) "MemoryTransactionsLaw" nm (.invokevirtual 65, [(0, 2), (11, 183)]) := wk_iv (ci := 11) (r := cq_11) rfl (mtq_183 fz) (mo_183 fz) (tb6 234 rfl rfl) (tb6 233 rfl rfl) (tb6 235 rfl rfl)
theorem lq_0_27 (fz : Bool) (nm : String) : rf_wk (cx0 fz) ocl0 tb0 sp0 str0 (stt0 fz) "MemoryTransactionsLaw" nm (.invokevirtual 66, [(0, 2), (0, 109)]) := wk_iv (ci := 0) (r := cq_0) rfl (mtq_109 fz) (mo_109 fz) (tb4 166 rfl rfl) (tb4 165 rfl rfl) (tb4 167 rfl rfl)
theorem lq_0_28 (fz : Bool) (nm : String) : rf_wk (cx0 fz) ocl0 tb0 sp0 str0 (stt0 fz) "MemoryTransactionsLaw" nm (.invokevirtual 69, [(0, 2), (11, 188)]) := wk_iv (ci := 11) (r := cq_11) rfl (mtq_188 fz) (mo_188 fz) (tb7 16 rfl rfl) (tb7 15 rfl rfl) (tb7 17 rfl rfl)
theorem lq_0_29 (fz : Bool) (nm : String) : rf_wk (cx0 fz) ocl0 tb0 sp0 str0 (stt0 fz) "MemoryTransactionsLaw" nm (.invokevirtual 70, [(0, 2), (0, 111)]) := wk_iv (ci := 0) (r := cq_0) rfl (mtq_111 fz) (mo_111 fz) (tb4 174 rfl rfl) (tb4 173 rfl rfl) (tb4 175 rfl rfl)
theorem lq_0_30 (fz : Bool) (nm : String) : rf_wk (cx0 fz) ocl0 tb0 sp0 str0 (stt0 fz) "MemoryTransactionsLaw" nm (.invokevirtual 74, [(0, 2), (11, 189)]) := wk_iv (ci := 11) (r := cq_11) rfl (mtq_189 fz) (mo_189 fz) (tb7 20 rfl rfl) (tb7 19 rfl rfl) (tb7 21 rfl rfl)
theorem lq_0_31 (fz : Bool) (nm : String) : rf_wk (cx0 fz) ocl0 tb0 sp0 str0 (stt0 fz) "MemoryTransactionsLaw" nm (.invokevirtual 75, [(0, 0), (0, 112)]) := wk_iv (ci := 0) (r := cq_0) rfl (mtq_112 fz) (mo_112 fz) (tb4 179 rfl rfl) (tb4 178 rfl rfl) (tb4 180 rfl rfl)
theorem lq_0_32 (fz : Bool) (nm : String) : rf_wk (cx0 fz) ocl0 tb0 sp0 str0 (stt0 fz) "MemoryTransactionsLaw" nm (.invokevirtual 78, [(0, 0), (11, 190)]) := wk_iv (ci := 11) (r := cq_11) rfl (mtq_190 fz) (mo_190 fz) (tb7 24 rfl rfl) (tb7 23 rfl rfl) (tb7 25 rfl rfl)
theorem lq_0_33 (fz : Bool) (nm : String) : rf_wk (cx0 fz) ocl0 tb0 sp0 str0 (stt0 fz) "MemoryTransactionsLaw" nm (.invokevirtual 79, [(0, 0), (0, 113)]) := wk_iv (ci := 0) (r := cq_0) rfl (mtq_113 fz) (mo_113 fz) (tb4 183 rfl rfl) (tb4 182 rfl rfl) (tb4 184 rfl rfl)
theorem lq_0_34 (fz : Bool) (nm : String) : rf_wk (cx0 fz) ocl0 tb0 sp0 str0 (stt0 fz) "MemoryTransactionsLaw" nm (.invokevirtual 82, [(0, 0), (11, 191)]) := wk_iv (ci := 11) (r := cq_11) rfl (mtq_191 fz) (mo_191 fz) (tb7 28 rfl rfl) (tb7 27 rfl rfl) (tb7 29 rfl rfl)
theorem lq_0_35 (fz : Bool) (nm : String) : rf_wk (cx0 fz) ocl0 tb0 sp0 str0 (stt0 fz) "MemoryTransactionsLaw" nm (.invokevirtual 83, [(0, 2), (0, 114)]) := wk_iv (ci := 0) (r := cq_0) rfl (mtq_114 fz) (mo_114 fz) (tb4 187 rfl rfl) (tb4 186 rfl rfl) (tb4 188 rfl rfl)
theorem lq_0_36 (fz : Bool) (nm : String) : rf_wk (cx0 fz) ocl0 tb0 sp0 str0 (stt0 fz) "MemoryTransactionsLaw" nm (.invokevirtual 86, [(0, 2), (11, 192)]) := wk_iv (ci := 11) (r := cq_11) rfl (mtq_192 fz) (mo_192 fz) (tb7 32 rfl rfl) (tb7 31 rfl rfl) (tb7 33 rfl rfl)
theorem lq_0_37 (fz : Bool) (nm : String) : rf_wk (cx0 fz) ocl0 tb0 sp0 str0 (stt0 fz) "MemoryTransactionsLaw" nm (.invokevirtual 87, [(0, 1), (0, 117)]) := wk_iv (ci := 0) (r := cq_0) rfl (mtq_117 fz) (mo_117 fz) (tb4 199 rfl rfl) (tb4 198 rfl rfl) (tb4 200 rfl rfl)
theorem lq_0_38 (fz : Bool) (nm : String) : rf_wk (cx0 fz) ocl0 tb0 sp0 str0 (stt0 fz) "MemoryTransactionsLaw" nm (.invokevirtual 90, [(0, 1), (11, 193)]) := wk_iv (ci := 11) (r := cq_11) rfl (mtq_193 fz) (mo_193 fz) (tb7 36 rfl rfl) (tb7 35 rfl rfl) (tb7 37 rfl rfl)
theorem lq_0_39 (fz : Bool) (nm : String) : rf_wk (cx0 fz) ocl0 tb0 sp0 str0 (stt0 fz) "MemoryTransactionsLaw" nm (.invokevirtual 91, [(0, 0), (0, 118)]) := wk_iv (ci := 0) (r := cq_0) rfl (mtq_118 fz) (mo_118 fz) (tb4 204 rfl rfl) (tb4 203 rfl rfl) (tb4 205 rfl rfl)
theorem lq_0_40 (fz : Bool) (nm : String) : rf_wk (cx0 fz) ocl0 tb0 sp0 str0 (stt0 fz) "MemoryTransactionsLaw" nm (.invokevirtual 94, [(0, 0), (11, 194)]) := wk_iv (ci := 11) (r := cq_11) rfl (mtq_194 fz) (mo_194 fz) (tb7 40 rfl rfl) (tb7 39 rfl rfl) (tb7 41 rfl rfl)
theorem lq_0_41 (fz : Bool) (nm : String) : rf_wk (cx0 fz) ocl0 tb0 sp0 str0 (stt0 fz) "MemoryTransactionsLaw" nm (.invokevirtual 95, [(0, 0), (0, 122)]) := wk_iv (ci := 0) (r := cq_0) rfl (mtq_122 fz) (mo_122 fz) (tb4 227 rfl rfl) (tb4 226 rfl rfl) (tb4 228 rfl rfl)
theorem lq_0_42 (fz : Bool) (nm : String) : rf_wk (cx0 fz) ocl0 tb0 sp0 str0 (stt0 fz) "MemoryTransactionsLaw" nm (.invokevirtual 98, [(0, 0), (11, 197)]) := wk_iv (ci := 11) (r := cq_11) rfl (mtq_197 fz) (mo_197 fz) (tb7 52 rfl rfl) (tb7 51 rfl rfl) (tb7 53 rfl rfl)
def lk_0 : List (Bool × rf_I) := [(false, (.new 7, [(0, 0)])), (false, (.invokespecial 9, [(0, 0), (0, 1)])), (false, (.new 10, [(0, 11)])), (false, (.invokespecial 12, [(0, 0), (0, 127)])), (false, (.invokevirtual 13, [(0, 5), (0, 13)])), (false, (.invokevirtual 17, [(0, 5), (11, 128)])), (false, (.invokevirtual 18, [(0, 1), (0, 15)])), (false, (.invokevirtual 22, [(0, 1), (11, 129)])), (false, (.invokevirtual 23, [(0, 0), (0, 16)])), (false, (.invokevirtual 27, [(0, 0), (11, 130)])), (false, (.invokevirtual 28, [(0, 0), (0, 56)])), (false, (.invokevirtual 31, [(0, 0), (11, 152)])), (false, (.invokevirtual 32, [(0, 2), (0, 57)])), (false, (.invokevirtual 36, [(0, 2), (11, 153)])), (false, (.ldc2_w 37, [(1, 4294967295)])), (false, (.invokevirtual 39, [(0, 2), (0, 59)])), (false, (.invokevirtual 43, [(0, 2), (11, 184)])), (false, (.invokevirtual 44, [(0, 1), (0, 79)])), (false, (.invokevirtual 48, [(0, 1), (11, 185)])), (false, (.invokevirtual 49, [(0, 1), (0, 80)])), (false, (.invokevirtual 52, [(0, 1), (11, 186)])), (false, (.invokevirtual 53, [(0, 2), (0, 81)])), (false, (.invokevirtual 56, [(0, 2), (11, 187)])), (false, (.invokevirtual 57, [(0, 1), (0, 84)])), (false, (.invokevirtual 60, [(0, 1), (11, 154)])), (false, (.invokevirtual 61, [(0, 2), (0, 108)])), (false, (.invokevirtual 65, [(0, 2), (11, 183)])), (false, (.invokevirtual 66, [(0, 2), (0, 109)])), (false, (.invokevirtual 69, [(0, 2), (11, 188)])), (false, (.invokevirtual 70, [(0, 2), (0, 111)])), (false, (.invokevirtual 74, [(0, 2), (11, 189)])), (false, (.invokevirtual 75, [(0, 0), (0, 112)])), (false, (.invokevirtual 78, [(0, 0), (11, 190)])), (false, (.invokevirtual 79, [(0, 0), (0, 113)])), (false, (.invokevirtual 82, [(0, 0), (11, 191)])), (false, (.invokevirtual 83, [(0, 2), (0, 114)])), (false, (.invokevirtual 86, [(0, 2), (11, 192)])), (false, (.invokevirtual 87, [(0, 1), (0, 117)])), (false, (.invokevirtual 90, [(0, 1), (11, 193)])), (false, (.invokevirtual 91, [(0, 0), (0, 118)])), (false, (.invokevirtual 94, [(0, 0), (11, 194)])), (false, (.invokevirtual 95, [(0, 0), (0, 122)])), (false, (.invokevirtual 98, [(0, 0), (11, 197)]))]
set_option maxRecDepth 100000 in
theorem lk_0_ok (fz : Bool) : ∀ e ∈ lk_0, ∀ nm : String, (e.1 = true → nm = "<init>") → rf_wk (cx0 fz) ocl0 tb0 sp0 str0 (stt0 fz) (nmO 0) nm e.2 := List.forall_mem_cons.mpr ⟨(fun nm _ => lq_0_0 fz nm), List.forall_mem_cons.mpr ⟨(fun nm _ => lq_0_1 fz nm), List.forall_mem_cons.mpr ⟨(fun nm _ => lq_0_2 fz nm), List.forall_mem_cons.mpr ⟨(fun nm _ => lq_0_3 fz nm), List.forall_mem_cons.mpr ⟨(fun nm _ => lq_0_4 fz nm), List.forall_mem_cons.mpr ⟨(fun nm _ => lq_0_5 fz nm), List.forall_mem_cons.mpr ⟨(fun nm _ => lq_0_6 fz nm), List.forall_mem_cons.mpr ⟨(fun nm _ => lq_0_7 fz nm), List.forall_mem_cons.mpr ⟨(fun nm _ => lq_0_8 fz nm), List.forall_mem_cons.mpr ⟨(fun nm _ => lq_0_9 fz nm), List.forall_mem_cons.mpr ⟨(fun nm _ => lq_0_10 fz nm), List.forall_mem_cons.mpr ⟨(fun nm _ => lq_0_11 fz nm), List.forall_mem_cons.mpr ⟨(fun nm _ => lq_0_12 fz nm), List.forall_mem_cons.mpr ⟨(fun nm _ => lq_0_13 fz nm), List.forall_mem_cons.mpr ⟨(fun nm _ => lq_0_14 fz nm), List.forall_mem_cons.mpr ⟨(fun nm _ => lq_0_15 fz nm), List.forall_mem_cons.mpr ⟨(fun nm _ => lq_0_16 fz nm), List.forall_mem_cons.mpr ⟨(fun nm _ => lq_0_17 fz nm), List.forall_mem_cons.mpr ⟨(fun nm _ => lq_0_18 fz nm), List.forall_mem_cons.mpr ⟨(fun nm _ => lq_0_19 fz nm), List.forall_mem_cons.mpr ⟨(fun nm _ => lq_0_20 fz nm), List.forall_mem_cons.mpr ⟨(fun nm _ => lq_0_21 fz nm), List.forall_mem_cons.mpr ⟨(fun nm _ => lq_0_22 fz nm), List.forall_mem_cons.mpr ⟨(fun nm _ => lq_0_23 fz nm), List.forall_mem_cons.mpr ⟨(fun nm _ => lq_0_24 fz nm), List.forall_mem_cons.mpr ⟨(fun nm _ => lq_0_25 fz nm), List.forall_mem_cons.mpr ⟨(fun nm _ => lq_0_26 fz nm), List.forall_mem_cons.mpr ⟨(fun nm _ => lq_0_27 fz nm), List.forall_mem_cons.mpr ⟨(fun nm _ => lq_0_28 fz nm), List.forall_mem_cons.mpr ⟨(fun nm _ => lq_0_29 fz nm), List.forall_mem_cons.mpr ⟨(fun nm _ => lq_0_30 fz nm), List.forall_mem_cons.mpr ⟨(fun nm _ => lq_0_31 fz nm), List.forall_mem_cons.mpr ⟨(fun nm _ => lq_0_32 fz nm), List.forall_mem_cons.mpr ⟨(fun nm _ => lq_0_33 fz nm), List.forall_mem_cons.mpr ⟨(fun nm _ => lq_0_34 fz nm), List.forall_mem_cons.mpr ⟨(fun nm _ => lq_0_35 fz nm), List.forall_mem_cons.mpr ⟨(fun nm _ => lq_0_36 fz nm), List.forall_mem_cons.mpr ⟨(fun nm _ => lq_0_37 fz nm), List.forall_mem_cons.mpr ⟨(fun nm _ => lq_0_38 fz nm), List.forall_mem_cons.mpr ⟨(fun nm _ => lq_0_39 fz nm), List.forall_mem_cons.mpr ⟨(fun nm _ => lq_0_40 fz nm), List.forall_mem_cons.mpr ⟨(fun nm _ => lq_0_41 fz nm), List.forall_mem_cons.mpr ⟨(fun nm _ => lq_0_42 fz nm), fun _ h => absurd h List.not_mem_nil⟩⟩⟩⟩⟩⟩⟩⟩⟩⟩⟩⟩⟩⟩⟩⟩⟩⟩⟩⟩⟩⟩⟩⟩⟩⟩⟩⟩⟩⟩⟩⟩⟩⟩⟩⟩⟩⟩⟩⟩⟩⟩⟩
theorem lq_1_0 (fz : Bool) (nm : String) : rf_wk (cx0 fz) ocl0 tb0 sp0 str0 (stt0 fz) "MemoryTransactions" nm (.invokespecial 3, [(10, 0)]) := wk_10 (tb1 26 rfl rfl) (tb1 27 rfl rfl) (tb1 28 rfl rfl)
theorem lq_1_1 (fz : Bool) (nm : String) : rf_wk (cx0 fz) ocl0 tb0 sp0 str0 (stt0 fz) "MemoryTransactions" nm (.newarray .int, []) := wk_newa (tb1 106 rfl rfl)
theorem lq_1_2 (fz : Bool) (nm : String) (hn : nm = "<init>") : rf_wk (cx0 fz) ocl0 tb0 sp0 str0 (stt0 fz) "MemoryTransactions" nm (.putfield 9, [(0, 0)]) := wk_pff (ci := 0) (r := cq_0) rfl ⟨by decide, "MemoryTransactions", (tb2 175 rfl rfl), Or.inl rfl⟩ rfl hn rfl
theorem lq_1_3 (fz : Bool) (nm : String) : rf_wk (cx0 fz) ocl0 tb0 sp0 str0 (stt0 fz) "MemoryTransactions" nm (.putfield 13, [(0, 1)]) := wk_pf (ci := 0) (r := cq_0) rfl ⟨by decide, "MemoryTransactions", (tb2 176 rfl rfl), Or.inl rfl⟩ rfl
theorem lq_1_4 (fz : Bool) (nm : String) : rf_wk (cx0 fz) ocl0 tb0 sp0 str0 (stt0 fz) "MemoryTransactions" nm (.anewarray 17, [(0, 1)]) := wk_anew (r := cq_1) rfl (tb1 29 rfl rfl) (spm 114 (by decide +kernel))
theorem lq_1_5 (fz : Bool) (nm : String) (hn : nm = "<init>") : rf_wk (cx0 fz) ocl0 tb0 sp0 str0 (stt0 fz) "MemoryTransactions" nm (.putfield 19, [(0, 2)]) := wk_pff (ci := 0) (r := cq_0) rfl ⟨by decide, "MemoryTransactions", (tb2 177 rfl rfl), Or.inl rfl⟩ rfl hn rfl
theorem lq_1_6 (fz : Bool) (nm : String) : rf_wk (cx0 fz) ocl0 tb0 sp0 str0 (stt0 fz) "MemoryTransactions" nm (.getfield 19, [(0, 2)]) := wk_gf (ci := 0) (r := cq_0) rfl ⟨by decide, "MemoryTransactions", (tb2 177 rfl rfl), Or.inl rfl⟩
theorem lq_1_7 (fz : Bool) (nm : String) : rf_wk (cx0 fz) ocl0 tb0 sp0 str0 (stt0 fz) "MemoryTransactions" nm (.new 17, [(0, 1)]) := wk_new (r := cq_1) rfl (tb1 29 rfl rfl) (tb1 31 rfl rfl) (tb1 2 rfl rfl)
theorem lq_1_8 (fz : Bool) (nm : String) : rf_wk (cx0 fz) ocl0 tb0 sp0 str0 (stt0 fz) "MemoryTransactions" nm (.invokespecial 23, [(0, 0), (0, 2)]) := wk_isN (host := "MemoryTransactions") (mtq_2 fz) (mo_2 fz) (tb1 33 rfl rfl) rfl (spm 116 (by decide +kernel))
theorem lq_1_9 (fz : Bool) (nm : String) : rf_wk (cx0 fz) ocl0 tb0 sp0 str0 (stt0 fz) "MemoryTransactions" nm (.putfield 24, [(0, 3)]) := wk_pf (ci := 0) (r := cq_0) rfl ⟨by decide, "MemoryTransactions", (tb2 178 rfl rfl), Or.inl rfl⟩ rfl
theorem lq_1_10 (fz : Bool) (nm : String) : rf_wk (cx0 fz) ocl0 tb0 sp0 str0 (stt0 fz) "MemoryTransactions" nm (.putfield 27, [(0, 4)]) := wk_pf (ci := 0) (r := cq_0) rfl ⟨by decide, "MemoryTransactions", (tb2 179 rfl rfl), Or.inl rfl⟩ rfl
theorem lq_1_11 (fz : Bool) (nm : String) : rf_wk (cx0 fz) ocl0 tb0 sp0 str0 (stt0 fz) "MemoryTransactions" nm (.new 30, [(0, 2)]) := wk_new (r := cq_2) rfl (tb1 107 rfl rfl) (tb1 108 rfl rfl) (tb1 3 rfl rfl)
theorem lq_1_12 (fz : Bool) (nm : String) : rf_wk (cx0 fz) ocl0 tb0 sp0 str0 (stt0 fz) "MemoryTransactions" nm (.invokespecial 32, [(0, 0), (0, 3)]) := wk_isN (host := "MemoryTransactions") (mtq_3 fz) (mo_3 fz) (tb1 110 rfl rfl) rfl (spm 193 (by decide +kernel))
theorem lq_1_13 (fz : Bool) (nm : String) (hn : nm = "<init>") : rf_wk (cx0 fz) ocl0 tb0 sp0 str0 (stt0 fz) "MemoryTransactions" nm (.putfield 33, [(0, 5)]) := wk_pff (ci := 0) (r := cq_0) rfl ⟨by decide, "MemoryTransactions", (tb2 180 rfl rfl), Or.inl rfl⟩ rfl hn rfl
theorem lq_1_14 (fz : Bool) (nm : String) : rf_wk (cx0 fz) ocl0 tb0 sp0 str0 (stt0 fz) "MemoryTransactions" nm (.new 37, [(0, 4)]) := wk_new (r := cq_4) rfl (tb1 163 rfl rfl) (tb1 164 rfl rfl) (tb1 6 rfl rfl)
theorem lq_1_15 (fz : Bool) (nm : String) : rf_wk (cx0 fz) ocl0 tb0 sp0 str0 (stt0 fz) "MemoryTransactions" nm (.invokespecial 39, [(0, 0), (0, 5)]) := wk_isN (host := "MemoryTransactions") (mtq_5 fz) (mo_5 fz) (tb1 166 rfl rfl) rfl (spm 249 (by decide +kernel))
theorem lq_1_16 (fz : Bool) (nm : String) (hn : nm = "<init>") : rf_wk (cx0 fz) ocl0 tb0 sp0 str0 (stt0 fz) "MemoryTransactions" nm (.putfield 40, [(0, 6)]) := wk_pff (ci := 0) (r := cq_0) rfl ⟨by decide, "MemoryTransactions", (tb2 181 rfl rfl), Or.inl rfl⟩ rfl hn rfl
theorem lq_1_17 (fz : Bool) (nm : String) : rf_wk (cx0 fz) ocl0 tb0 sp0 str0 (stt0 fz) "MemoryTransactions" nm (.anewarray 44, [(0, 6)]) := wk_anew (r := cq_6) rfl (tb1 221 rfl rfl) (spm 306 (by decide +kernel))
theorem lq_1_18 (fz : Bool) (nm : String) (hn : nm = "<init>") : rf_wk (cx0 fz) ocl0 tb0 sp0 str0 (stt0 fz) "MemoryTransactions" nm (.putfield 46, [(0, 7)]) := wk_pff (ci := 0) (r := cq_0) rfl ⟨by decide, "MemoryTransactions", (tb2 182 rfl rfl), Or.inl rfl⟩ rfl hn rfl
theorem lq_1_19 (fz : Bool) (nm : String) : rf_wk (cx0 fz) ocl0 tb0 sp0 str0 (stt0 fz) "MemoryTransactions" nm (.getfield 46, [(0, 7)]) := wk_gf (ci := 0) (r := cq_0) rfl ⟨by decide, "MemoryTransactions", (tb2 182 rfl rfl), Or.inl rfl⟩
theorem lq_1_20 (fz : Bool) (nm : String) : rf_wk (cx0 fz) ocl0 tb0 sp0 str0 (stt0 fz) "MemoryTransactions" nm (.new 44, [(0, 6)]) := wk_new (r := cq_6) rfl (tb1 221 rfl rfl) (tb1 223 rfl rfl) (tb1 8 rfl rfl)
theorem lq_1_21 (fz : Bool) (nm : String) : rf_wk (cx0 fz) ocl0 tb0 sp0 str0 (stt0 fz) "MemoryTransactions" nm (.getfield 40, [(0, 6)]) := wk_gf (ci := 0) (r := cq_0) rfl ⟨by decide, "MemoryTransactions", (tb2 181 rfl rfl), Or.inl rfl⟩
theorem lq_1_22 (fz : Bool) (nm : String) : rf_wk (cx0 fz) ocl0 tb0 sp0 str0 (stt0 fz) "MemoryTransactions" nm (.invokespecial 50, [(0, 2), (0, 8)]) := wk_is (mtq_8 fz) (mo_8 fz) (tb1 225 rfl rfl) rfl (tb1 224 rfl rfl)
theorem lq_1_23 (fz : Bool) (nm : String) : rf_wk (cx0 fz) ocl0 tb0 sp0 str0 (stt0 fz) "MemoryTransactions" nm (.new 53, [(0, 9)]) := wk_new (r := cq_9) rfl (tb2 112 rfl rfl) (tb2 113 rfl rfl) (tb1 11 rfl rfl)
theorem lq_1_24 (fz : Bool) (nm : String) : rf_wk (cx0 fz) ocl0 tb0 sp0 str0 (stt0 fz) "MemoryTransactions" nm (.invokespecial 55, [(0, 0), (0, 11)]) := wk_isN (host := "MemoryTransactions") (mtq_11 fz) (mo_11 fz) (tb2 115 rfl rfl) rfl (spm 438 (by decide +kernel))
theorem lq_1_25 (fz : Bool) (nm : String) (hn : nm = "<init>") : rf_wk (cx0 fz) ocl0 tb0 sp0 str0 (stt0 fz) "MemoryTransactions" nm (.putfield 56, [(0, 8)]) := wk_pff (ci := 0) (r := cq_0) rfl ⟨by decide, "MemoryTransactions", (tb2 183 rfl rfl), Or.inl rfl⟩ rfl hn rfl
theorem lq_1_26 (fz : Bool) (nm : String) : rf_wk (cx0 fz) ocl0 tb0 sp0 str0 (stt0 fz) "MemoryTransactions" nm (.new 60, [(0, 10)]) := wk_new (r := cq_10) rfl (tb2 146 rfl rfl) (tb2 147 rfl rfl) (tb1 12 rfl rfl)
theorem lq_1_27 (fz : Bool) (nm : String) : rf_wk (cx0 fz) ocl0 tb0 sp0 str0 (stt0 fz) "MemoryTransactions" nm (.invokespecial 62, [(0, 1), (0, 12)]) := wk_is (mtq_12 fz) (mo_12 fz) (tb2 149 rfl rfl) rfl (tb2 148 rfl rfl)
theorem lq_1_28 (fz : Bool) (nm : String) (hn : nm = "<init>") : rf_wk (cx0 fz) ocl0 tb0 sp0 str0 (stt0 fz) "MemoryTransactions" nm (.putfield 65, [(0, 9)]) := wk_pff (ci := 0) (r := cq_0) rfl ⟨by decide, "MemoryTransactions", (tb2 184 rfl rfl), Or.inl rfl⟩ rfl hn rfl
theorem lq_1_29 (fz : Bool) (nm : String) : rf_wk (cx0 fz) ocl0 tb0 sp0 str0 (stt0 fz) "MemoryTransactions" nm (.getfield 13, [(0, 1)]) := wk_gf (ci := 0) (r := cq_0) rfl ⟨by decide, "MemoryTransactions", (tb2 176 rfl rfl), Or.inl rfl⟩
theorem lq_1_30 (fz : Bool) (nm : String) : rf_wk (cx0 fz) ocl0 tb0 sp0 str0 (stt0 fz) "MemoryTransactions" nm (.invokevirtual 69, [(0, 1), (0, 14)]) := wk_iv (ci := 0) (r := cq_0) rfl (mtq_14 fz) (mo_14 fz) (tb2 212 rfl rfl) (tb2 210 rfl rfl) (tbm 0 (by decide +kernel))
theorem lq_1_31 (fz : Bool) (nm : String) : rf_wk (cx0 fz) ocl0 tb0 sp0 str0 (stt0 fz) "MemoryTransactions" nm (.getfield 9, [(0, 0)]) := wk_gf (ci := 0) (r := cq_0) rfl ⟨by decide, "MemoryTransactions", (tb2 175 rfl rfl), Or.inl rfl⟩
theorem lq_1_32 (fz : Bool) (nm : String) : rf_wk (cx0 fz) ocl0 tb0 sp0 str0 (stt0 fz) "MemoryTransactions" nm (.getfield 24, [(0, 3)]) := wk_gf (ci := 0) (r := cq_0) rfl ⟨by decide, "MemoryTransactions", (tb2 178 rfl rfl), Or.inl rfl⟩
theorem lq_1_33 (fz : Bool) (nm : String) : rf_wk (cx0 fz) ocl0 tb0 sp0 str0 (stt0 fz) "MemoryTransactions" nm (.getfield 33, [(0, 5)]) := wk_gf (ci := 0) (r := cq_0) rfl ⟨by decide, "MemoryTransactions", (tb2 180 rfl rfl), Or.inl rfl⟩
theorem lq_1_34 (fz : Bool) (nm : String) : rf_wk (cx0 fz) ocl0 tb0 sp0 str0 (stt0 fz) "MemoryTransactions" nm (.invokevirtual 73, [(0, 3), (2, 17)]) := wk_iv (ci := 2) (r := cq_2) rfl (mtq_17 fz) (mo_17 fz) (tb2 223 rfl rfl) (tb2 222 rfl rfl) (tb2 224 rfl rfl)
theorem lq_1_35 (fz : Bool) (nm : String) : rf_wk (cx0 fz) ocl0 tb0 sp0 str0 (stt0 fz) "MemoryTransactions" nm (.getfield 27, [(0, 4)]) := wk_gf (ci := 0) (r := cq_0) rfl ⟨by decide, "MemoryTransactions", (tb2 179 rfl rfl), Or.inl rfl⟩
theorem lq_1_36 (fz : Bool) (nm : String) : rf_wk (cx0 fz) ocl0 tb0 sp0 str0 (stt0 fz) "MemoryTransactions" nm (.invokevirtual 77, [(0, 1), (0, 58)]) := wk_iv (ci := 0) (r := cq_0) rfl (mtq_58 fz) (mo_58 fz) (tb3 180 rfl rfl) (tb3 178 rfl rfl) (tbm 23 (by decide +kernel))
theorem lq_1_37 (fz : Bool) (nm : String) : rf_wk (cx0 fz) ocl0 tb0 sp0 str0 (stt0 fz) "MemoryTransactions" nm (.getfield 81, [(1, 0)]) := wk_gf (ci := 1) (r := cq_1) rfl ⟨by decide, "MemoryTransactions$Program", (tb1 37 rfl rfl), Or.inl rfl⟩
theorem lq_1_38 (fz : Bool) (nm : String) : rf_wk (cx0 fz) ocl0 tb0 sp0 str0 (stt0 fz) "MemoryTransactions" nm (.getfield 84, [(1, 1)]) := wk_gf (ci := 1) (r := cq_1) rfl ⟨by decide, "MemoryTransactions$Program", (tb1 39 rfl rfl), Or.inl rfl⟩
theorem lq_1_39 (fz : Bool) (nm : String) : rf_wk (cx0 fz) ocl0 tb0 sp0 str0 (stt0 fz) "MemoryTransactions" nm (.getfield 87, [(1, 2)]) := wk_gf (ci := 1) (r := cq_1) rfl ⟨by decide, "MemoryTransactions$Program", (tb1 42 rfl rfl), Or.inl rfl⟩
theorem lq_1_40 (fz : Bool) (nm : String) : rf_wk (cx0 fz) ocl0 tb0 sp0 str0 (stt0 fz) "MemoryTransactions" nm (.invokestatic 90, [(0, 1), (0, 52)]) := wk_st (mtq_52 fz) (mo_52 fz) (tb3 152 rfl rfl) (tb3 186 rfl rfl)
theorem lq_1_41 (fz : Bool) (nm : String) : rf_wk (cx0 fz) ocl0 tb0 sp0 str0 (stt0 fz) "MemoryTransactions" nm (.getfield 56, [(0, 8)]) := wk_gf (ci := 0) (r := cq_0) rfl ⟨by decide, "MemoryTransactions", (tb2 183 rfl rfl), Or.inl rfl⟩
theorem lq_1_42 (fz : Bool) (nm : String) : rf_wk (cx0 fz) ocl0 tb0 sp0 str0 (stt0 fz) "MemoryTransactions" nm (.invokevirtual 93, [(0, 0), (9, 60)]) := wk_iv (ci := 9) (r := cq_9) rfl (mtq_60 fz) (mo_60 fz) (tb3 188 rfl rfl) (tb3 187 rfl rfl) (tb3 189 rfl rfl)
theorem lq_1_43 (fz : Bool) (nm : String) : rf_wk (cx0 fz) ocl0 tb0 sp0 str0 (stt0 fz) "MemoryTransactions" nm (.invokevirtual 97, [(0, 2), (4, 61)]) := wk_iv (ci := 4) (r := cq_4) rfl (mtq_61 fz) (mo_61 fz) (tb3 192 rfl rfl) (tb3 191 rfl rfl) (tb3 193 rfl rfl)
theorem lq_1_44 (fz : Bool) (nm : String) : rf_wk (cx0 fz) ocl0 tb0 sp0 str0 (stt0 fz) "MemoryTransactions" nm (.invokevirtual 101, [(0, 2), (4, 77)]) := wk_iv (ci := 4) (r := cq_4) rfl (mtq_77 fz) (mo_77 fz) (tb4 21 rfl rfl) (tb4 20 rfl rfl) (tb4 22 rfl rfl)
theorem lq_1_45 (fz : Bool) (nm : String) : rf_wk (cx0 fz) ocl0 tb0 sp0 str0 (stt0 fz) "MemoryTransactions" nm (.invokevirtual 105, [(0, 6), (9, 78)]) := wk_iv (ci := 9) (r := cq_9) rfl (mtq_78 fz) (mo_78 fz) (tb4 25 rfl rfl) (tb4 24 rfl rfl) (tb4 26 rfl rfl)
theorem lq_1_46 (fz : Bool) (nm : String) : rf_wk (cx0 fz) ocl0 tb0 sp0 str0 (stt0 fz) "MemoryTransactions" nm (.getfield 109, [(4, 1)]) := wk_gf (ci := 4) (r := cq_4) rfl ⟨by decide, "MemoryTransactions$Store", (tb1 191 rfl rfl), Or.inl rfl⟩
theorem lq_1_47 (fz : Bool) (nm : String) : rf_wk (cx0 fz) ocl0 tb0 sp0 str0 (stt0 fz) "MemoryTransactions" nm (.getfield 112, [(4, 0)]) := wk_gf (ci := 4) (r := cq_4) rfl ⟨by decide, "MemoryTransactions$Store", (tb1 188 rfl rfl), Or.inl rfl⟩
theorem lq_1_48 (fz : Bool) (nm : String) : rf_wk (cx0 fz) ocl0 tb0 sp0 str0 (stt0 fz) "MemoryTransactions" nm (.invokevirtual 116, [(0, 1), (0, 82)]) := wk_iv (ci := 0) (r := cq_0) rfl (mtq_82 fz) (mo_82 fz) (tb4 43 rfl rfl) (tb4 41 rfl rfl) (tbm 29 (by decide +kernel))
theorem lq_1_49 (fz : Bool) (nm : String) : rf_wk (cx0 fz) ocl0 tb0 sp0 str0 (stt0 fz) "MemoryTransactions" nm (.invokevirtual 119, [(0, 1), (6, 83)]) := wk_iv (ci := 6) (r := cq_6) rfl (mtq_83 fz) (mo_83 fz) (tb4 46 rfl rfl) (tb4 45 rfl rfl) (tb4 47 rfl rfl)
theorem lq_1_50 (fz : Bool) (nm : String) : rf_wk (cx0 fz) ocl0 tb0 sp0 str0 (stt0 fz) "MemoryTransactions" nm (.invokevirtual 123, [(0, 1), (0, 85)]) := wk_iv (ci := 0) (r := cq_0) rfl (mtq_85 fz) (mo_85 fz) (tb4 55 rfl rfl) (tb4 53 rfl rfl) (tbm 30 (by decide +kernel))
theorem lq_1_51 (fz : Bool) (nm : String) : rf_wk (cx0 fz) ocl0 tb0 sp0 str0 (stt0 fz) "MemoryTransactions" nm (.getfield 133, [(6, 0)]) := wk_gf (ci := 6) (r := cq_6) rfl ⟨by decide, "MemoryTransactions$Client", (tb2 83 rfl rfl), Or.inl rfl⟩
theorem lq_1_52 (fz : Bool) (nm : String) : rf_wk (cx0 fz) ocl0 tb0 sp0 str0 (stt0 fz) "MemoryTransactions" nm (.invokevirtual 178, [(0, 1), (6, 86)]) := wk_iv (ci := 6) (r := cq_6) rfl (mtq_86 fz) (mo_86 fz) (tb4 58 rfl rfl) (tb4 57 rfl rfl) (tb4 59 rfl rfl)
theorem lq_1_53 (fz : Bool) (nm : String) : rf_wk (cx0 fz) ocl0 tb0 sp0 str0 (stt0 fz) "MemoryTransactions" nm (.getfield 136, [(6, 4)]) := wk_gf (ci := 6) (r := cq_6) rfl ⟨by decide, "MemoryTransactions$Client", (tb2 91 rfl rfl), Or.inl rfl⟩
theorem lq_1_54 (fz : Bool) (nm : String) : rf_wk (cx0 fz) ocl0 tb0 sp0 str0 (stt0 fz) "MemoryTransactions" nm (.getfield 181, [(6, 3)]) := wk_gf (ci := 6) (r := cq_6) rfl ⟨by decide, "MemoryTransactions$Client", (tb2 89 rfl rfl), Or.inl rfl⟩
theorem lq_1_55 (fz : Bool) (nm : String) : rf_wk (cx0 fz) ocl0 tb0 sp0 str0 (stt0 fz) "MemoryTransactions" nm (.invokevirtual 184, [(0, 1), (7, 87)]) := wk_iv (ci := 7) (r := cq_7) rfl (mtq_87 fz) (mo_87 fz) (tb4 63 rfl rfl) (tb4 62 rfl rfl) (tb4 64 rfl rfl)
theorem lq_1_56 (fz : Bool) (nm : String) : rf_wk (cx0 fz) ocl0 tb0 sp0 str0 (stt0 fz) "MemoryTransactions" nm (.putfield 133, [(6, 0)]) := wk_pf (ci := 6) (r := cq_6) rfl ⟨by decide, "MemoryTransactions$Client", (tb2 83 rfl rfl), Or.inl rfl⟩ rfl
theorem lq_1_57 (fz : Bool) (nm : String) : rf_wk (cx0 fz) ocl0 tb0 sp0 str0 (stt0 fz) "MemoryTransactions" nm (.getfield 188, [(7, 2)]) := wk_gf (ci := 7) (r := cq_7) rfl ⟨by decide, "MemoryTransactions$Run", (tb2 46 rfl rfl), Or.inl rfl⟩
theorem lq_1_58 (fz : Bool) (nm : String) : rf_wk (cx0 fz) ocl0 tb0 sp0 str0 (stt0 fz) "MemoryTransactions" nm (.invokevirtual 191, [(0, 0), (7, 90)]) := wk_iv (ci := 7) (r := cq_7) rfl (mtq_90 fz) (mo_90 fz) (tb4 74 rfl rfl) (tb4 73 rfl rfl) (tb4 75 rfl rfl)
theorem lq_1_59 (fz : Bool) (nm : String) : rf_wk (cx0 fz) ocl0 tb0 sp0 str0 (stt0 fz) "MemoryTransactions" nm (.invokevirtual 195, [(0, 0), (7, 71)]) := wk_iv (ci := 7) (r := cq_7) rfl (mtq_71 fz) (mo_71 fz) (tb3 239 rfl rfl) (tb4 126 rfl rfl) (tb4 0 rfl rfl)
theorem lq_1_60 (fz : Bool) (nm : String) : rf_wk (cx0 fz) ocl0 tb0 sp0 str0 (stt0 fz) "MemoryTransactions" nm (.invokevirtual 198, [(0, 0), (6, 101)]) := wk_iv (ci := 6) (r := cq_6) rfl (mtq_101 fz) (mo_101 fz) (tb4 128 rfl rfl) (tb4 127 rfl rfl) (tb4 129 rfl rfl)
theorem lq_1_61 (fz : Bool) (nm : String) : rf_wk (cx0 fz) ocl0 tb0 sp0 str0 (stt0 fz) "MemoryTransactions" nm (.invokevirtual 201, [(0, 0), (6, 102)]) := wk_iv (ci := 6) (r := cq_6) rfl (mtq_102 fz) (mo_102 fz) (tb4 132 rfl rfl) (tb4 131 rfl rfl) (tb4 133 rfl rfl)
theorem lq_1_62 (fz : Bool) (nm : String) : rf_wk (cx0 fz) ocl0 tb0 sp0 str0 (stt0 fz) "MemoryTransactions" nm (.invokevirtual 204, [(0, 1), (0, 103)]) := wk_iv (ci := 0) (r := cq_0) rfl (mtq_103 fz) (mo_103 fz) (tb4 138 rfl rfl) (tb4 136 rfl rfl) (tbm 34 (by decide +kernel))
theorem lq_1_63 (fz : Bool) (nm : String) : rf_wk (cx0 fz) ocl0 tb0 sp0 str0 (stt0 fz) "MemoryTransactions" nm (.putfield 188, [(7, 2)]) := wk_pf (ci := 7) (r := cq_7) rfl ⟨by decide, "MemoryTransactions$Run", (tb2 46 rfl rfl), Or.inl rfl⟩ rfl
theorem lq_1_64 (fz : Bool) (nm : String) : rf_wk (cx0 fz) ocl0 tb0 sp0 str0 (stt0 fz) "MemoryTransactions" nm (.invokevirtual 207, [(0, 2), (0, 104)]) := wk_iv (ci := 0) (r := cq_0) rfl (mtq_104 fz) (mo_104 fz) (tb4 142 rfl rfl) (tb4 140 rfl rfl) (tbm 35 (by decide +kernel))
theorem lq_1_65 (fz : Bool) (nm : String) : rf_wk (cx0 fz) ocl0 tb0 sp0 str0 (stt0 fz) "MemoryTransactions" nm (.getfield 210, [(6, 2)]) := wk_gf (ci := 6) (r := cq_6) rfl ⟨by decide, "MemoryTransactions$Client", (tb2 87 rfl rfl), Or.inl rfl⟩
theorem lq_1_66 (fz : Bool) (nm : String) : rf_wk (cx0 fz) ocl0 tb0 sp0 str0 (stt0 fz) "MemoryTransactions" nm (.getfield 213, [(7, 0)]) := wk_gf (ci := 7) (r := cq_7) rfl ⟨by decide, "MemoryTransactions$Run", (tb2 39 rfl rfl), Or.inl rfl⟩
theorem lq_1_67 (fz : Bool) (nm : String) : rf_wk (cx0 fz) ocl0 tb0 sp0 str0 (stt0 fz) "MemoryTransactions" nm (.getfield 217, [(7, 5)]) := wk_gf (ci := 7) (r := cq_7) rfl ⟨by decide, "MemoryTransactions$Run", (tb2 55 rfl rfl), Or.inl rfl⟩
theorem lq_1_68 (fz : Bool) (nm : String) : rf_wk (cx0 fz) ocl0 tb0 sp0 str0 (stt0 fz) "MemoryTransactions" nm (.invokevirtual 221, [(0, 2), (4, 105)]) := wk_iv (ci := 4) (r := cq_4) rfl (mtq_105 fz) (mo_105 fz) (tb4 145 rfl rfl) (tb4 144 rfl rfl) (tb4 146 rfl rfl)
theorem lq_1_69 (fz : Bool) (nm : String) : rf_wk (cx0 fz) ocl0 tb0 sp0 str0 (stt0 fz) "MemoryTransactions" nm (.ldc2_w 225, [(1, 18446744073709551614)]) := wk_l2 (tb4 150 rfl rfl)
theorem lq_1_70 (fz : Bool) (nm : String) : rf_wk (cx0 fz) ocl0 tb0 sp0 str0 (stt0 fz) "MemoryTransactions" nm (.putfield 227, [(7, 3)]) := wk_pf (ci := 7) (r := cq_7) rfl ⟨by decide, "MemoryTransactions$Run", (tb2 49 rfl rfl), Or.inl rfl⟩ rfl
theorem lq_1_71 (fz : Bool) (nm : String) : rf_wk (cx0 fz) ocl0 tb0 sp0 str0 (stt0 fz) "MemoryTransactions" nm (.getfield 231, [(7, 1)]) := wk_gf (ci := 7) (r := cq_7) rfl ⟨by decide, "MemoryTransactions$Run", (tb2 43 rfl rfl), Or.inl rfl⟩
theorem lq_1_72 (fz : Bool) (nm : String) : rf_wk (cx0 fz) ocl0 tb0 sp0 str0 (stt0 fz) "MemoryTransactions" nm (.getfield 234, [(6, 1)]) := wk_gf (ci := 6) (r := cq_6) rfl ⟨by decide, "MemoryTransactions$Client", (tb2 85 rfl rfl), Or.inl rfl⟩
theorem lq_1_73 (fz : Bool) (nm : String) : rf_wk (cx0 fz) ocl0 tb0 sp0 str0 (stt0 fz) "MemoryTransactions" nm (.getfield 227, [(7, 3)]) := wk_gf (ci := 7) (r := cq_7) rfl ⟨by decide, "MemoryTransactions$Run", (tb2 49 rfl rfl), Or.inl rfl⟩
theorem lq_1_74 (fz : Bool) (nm : String) : rf_wk (cx0 fz) ocl0 tb0 sp0 str0 (stt0 fz) "MemoryTransactions" nm (.invokevirtual 237, [(0, 0), (6, 106)]) := wk_iv (ci := 6) (r := cq_6) rfl (mtq_106 fz) (mo_106 fz) (tb4 152 rfl rfl) (tb4 151 rfl rfl) (tb4 153 rfl rfl)
theorem lq_1_75 (fz : Bool) (nm : String) : rf_wk (cx0 fz) ocl0 tb0 sp0 str0 (stt0 fz) "MemoryTransactions" nm (.ldc2_w 126, [(1, 6364136223846793005)]) := wk_l2 (tb4 163 rfl rfl)
theorem lq_1_76 (fz : Bool) (nm : String) : rf_wk (cx0 fz) ocl0 tb0 sp0 str0 (stt0 fz) "MemoryTransactions" nm (.ldc2_w 128, [(1, 1442695040888963407)]) := wk_l2 (tb4 164 rfl rfl)
theorem lq_1_77 (fz : Bool) (nm : String) : rf_wk (cx0 fz) ocl0 tb0 sp0 str0 (stt0 fz) "MemoryTransactions" nm (.invokevirtual 130, [(0, 1), (6, 110)]) := wk_iv (ci := 6) (r := cq_6) rfl (mtq_110 fz) (mo_110 fz) (tb4 170 rfl rfl) (tb4 169 rfl rfl) (tb4 171 rfl rfl)
theorem lq_1_78 (fz : Bool) (nm : String) : rf_wk (cx0 fz) ocl0 tb0 sp0 str0 (stt0 fz) "MemoryTransactions" nm (.invokevirtual 140, [(0, 1), (7, 70)]) := wk_iv (ci := 7) (r := cq_7) rfl (mtq_70 fz) (mo_70 fz) (tb3 235 rfl rfl) (tb4 177 rfl rfl) (tb3 236 rfl rfl)
theorem lq_1_79 (fz : Bool) (nm : String) : rf_wk (cx0 fz) ocl0 tb0 sp0 str0 (stt0 fz) "MemoryTransactions" nm (.getfield 146, [(4, 2)]) := wk_gf (ci := 4) (r := cq_4) rfl ⟨by decide, "MemoryTransactions$Store", (tb1 194 rfl rfl), Or.inl rfl⟩
theorem lq_1_80 (fz : Bool) (nm : String) : rf_wk (cx0 fz) ocl0 tb0 sp0 str0 (stt0 fz) "MemoryTransactions" nm (.getfield 149, [(9, 0)]) := wk_gf (ci := 9) (r := cq_9) rfl ⟨by decide, "MemoryTransactions$Journal", (tb2 119 rfl rfl), Or.inl rfl⟩
theorem lq_1_81 (fz : Bool) (nm : String) : rf_wk (cx0 fz) ocl0 tb0 sp0 str0 (stt0 fz) "MemoryTransactions" nm (.invokevirtual 150, [(0, 2), (9, 115)]) := wk_iv (ci := 9) (r := cq_9) rfl (mtq_115 fz) (mo_115 fz) (tb4 191 rfl rfl) (tb4 190 rfl rfl) (tb4 192 rfl rfl)
theorem lq_1_82 (fz : Bool) (nm : String) : rf_wk (cx0 fz) ocl0 tb0 sp0 str0 (stt0 fz) "MemoryTransactions" nm (.invokevirtual 153, [(0, 1), (9, 116)]) := wk_iv (ci := 9) (r := cq_9) rfl (mtq_116 fz) (mo_116 fz) (tb4 195 rfl rfl) (tb4 202 rfl rfl) (tb4 196 rfl rfl)
theorem lq_1_83 (fz : Bool) (nm : String) : rf_wk (cx0 fz) ocl0 tb0 sp0 str0 (stt0 fz) "MemoryTransactions" nm (.getfield 156, [(9, 6)]) := wk_gf (ci := 9) (r := cq_9) rfl ⟨by decide, "MemoryTransactions$Journal", (tb2 130 rfl rfl), Or.inl rfl⟩
theorem lq_1_84 (fz : Bool) (nm : String) : rf_wk (cx0 fz) ocl0 tb0 sp0 str0 (stt0 fz) "MemoryTransactions" nm (.getfield 65, [(0, 9)]) := wk_gf (ci := 0) (r := cq_0) rfl ⟨by decide, "MemoryTransactions", (tb2 184 rfl rfl), Or.inl rfl⟩
theorem lq_1_85 (fz : Bool) (nm : String) : rf_wk (cx0 fz) ocl0 tb0 sp0 str0 (stt0 fz) "MemoryTransactions" nm (.getfield 157, [(10, 1)]) := wk_gf (ci := 10) (r := cq_10) rfl ⟨by decide, "MemoryTransactions$Replay", (tb2 159 rfl rfl), Or.inl rfl⟩
theorem lq_1_86 (fz : Bool) (nm : String) : rf_wk (cx0 fz) ocl0 tb0 sp0 str0 (stt0 fz) "MemoryTransactions" nm (.invokevirtual 160, [(0, 2), (10, 119)]) := wk_iv (ci := 10) (r := cq_10) rfl (mtq_119 fz) (mo_119 fz) (tb4 208 rfl rfl) (tb4 207 rfl rfl) (tb4 209 rfl rfl)
theorem lq_1_87 (fz : Bool) (nm : String) : rf_wk (cx0 fz) ocl0 tb0 sp0 str0 (stt0 fz) "MemoryTransactions" nm (.getfield 164, [(10, 2)]) := wk_gf (ci := 10) (r := cq_10) rfl ⟨by decide, "MemoryTransactions$Replay", (tb2 161 rfl rfl), Or.inl rfl⟩
theorem lq_1_88 (fz : Bool) (nm : String) : rf_wk (cx0 fz) ocl0 tb0 sp0 str0 (stt0 fz) "MemoryTransactions" nm (.getfield 168, [(10, 0)]) := wk_gf (ci := 10) (r := cq_10) rfl ⟨by decide, "MemoryTransactions$Replay", (tb2 157 rfl rfl), Or.inl rfl⟩
theorem lq_1_89 (fz : Bool) (nm : String) : rf_wk (cx0 fz) ocl0 tb0 sp0 str0 (stt0 fz) "MemoryTransactions" nm (.invokevirtual 169, [(0, 1), (4, 121)]) := wk_iv (ci := 4) (r := cq_4) rfl (mtq_121 fz) (mo_121 fz) (tb4 223 rfl rfl) (tb4 222 rfl rfl) (tb4 224 rfl rfl)
theorem lq_1_90 (fz : Bool) (nm : String) : rf_wk (cx0 fz) ocl0 tb0 sp0 str0 (stt0 fz) "MemoryTransactions" nm (.putfield 149, [(9, 0)]) := wk_pf (ci := 9) (r := cq_9) rfl ⟨by decide, "MemoryTransactions$Journal", (tb2 119 rfl rfl), Or.inl rfl⟩ rfl
theorem lq_1_91 (fz : Bool) (nm : String) : rf_wk (cx0 fz) ocl0 tb0 sp0 str0 (stt0 fz) "MemoryTransactions" nm (.invokevirtual 173, [(0, 0), (4, 123)]) := wk_iv (ci := 4) (r := cq_4) rfl (mtq_123 fz) (mo_123 fz) (tb4 231 rfl rfl) (tb4 230 rfl rfl) (tb4 232 rfl rfl)
theorem lq_1_92 (fz : Bool) (nm : String) : rf_wk (cx0 fz) ocl0 tb0 sp0 str0 (stt0 fz) "MemoryTransactions" nm (.invokevirtual 176, [(0, 0), (10, 125)]) := wk_iv (ci := 10) (r := cq_10) rfl (mtq_125 fz) (mo_125 fz) (tb4 239 rfl rfl) (tb4 238 rfl rfl) (tb5 0 rfl rfl)
theorem lq_1_93 (fz : Bool) (nm : String) : rf_wk (cx0 fz) ocl0 tb0 sp0 str0 (stt0 fz) "MemoryTransactions" nm (.invokevirtual 177, [(0, 0), (6, 126)]) := wk_iv (ci := 6) (r := cq_6) rfl (mtq_126 fz) (mo_126 fz) (tb5 4 rfl rfl) (tb5 3 rfl rfl) (tb5 5 rfl rfl)
def lk_1 : List (Bool × rf_I) := [(false, (.invokespecial 3, [(10, 0)])), (false, (.newarray .int, [])), (true, (.putfield 9, [(0, 0)])), (false, (.putfield 13, [(0, 1)])), (false, (.anewarray 17, [(0, 1)])), (true, (.putfield 19, [(0, 2)])), (false, (.getfield 19, [(0, 2)])), (false, (.new 17, [(0, 1)])), (false, (.invokespecial 23, [(0, 0), (0, 2)])), (false, (.putfield 24, [(0, 3)])), (false, (.putfield 27, [(0, 4)])), (false, (.new 30, [(0, 2)])), (false, (.invokespecial 32, [(0, 0), (0, 3)])), (true, (.putfield 33, [(0, 5)])), (false, (.new 37, [(0, 4)])), (false, (.invokespecial 39, [(0, 0), (0, 5)])), (true, (.putfield 40, [(0, 6)])), (false, (.anewarray 44, [(0, 6)])), (true, (.putfield 46, [(0, 7)])), (false, (.getfield 46, [(0, 7)])), (false, (.new 44, [(0, 6)])), (false, (.getfield 40, [(0, 6)])), (false, (.invokespecial 50, [(0, 2), (0, 8)])), (false, (.new 53, [(0, 9)])), (false, (.invokespecial 55, [(0, 0), (0, 11)])), (true, (.putfield 56, [(0, 8)])), (false, (.new 60, [(0, 10)])), (false, (.invokespecial 62, [(0, 1), (0, 12)])), (true, (.putfield 65, [(0, 9)])), (false, (.getfield 13, [(0, 1)])), (false, (.invokevirtual 69, [(0, 1), (0, 14)])), (false, (.getfield 9, [(0, 0)])), (false, (.getfield 24, [(0, 3)])), (false, (.getfield 33, [(0, 5)])), (false, (.invokevirtual 73, [(0, 3), (2, 17)])), (false, (.getfield 27, [(0, 4)])), (false, (.invokevirtual 77, [(0, 1), (0, 58)])), (false, (.getfield 81, [(1, 0)])), (false, (.getfield 84, [(1, 1)])), (false, (.getfield 87, [(1, 2)])), (false, (.invokestatic 90, [(0, 1), (0, 52)])), (false, (.getfield 56, [(0, 8)])), (false, (.invokevirtual 93, [(0, 0), (9, 60)])), (false, (.invokevirtual 97, [(0, 2), (4, 61)])), (false, (.invokevirtual 101, [(0, 2), (4, 77)])), (false, (.invokevirtual 105, [(0, 6), (9, 78)])), (false, (.getfield 109, [(4, 1)])), (false, (.getfield 112, [(4, 0)])), (false, (.invokevirtual 116, [(0, 1), (0, 82)])), (false, (.invokevirtual 119, [(0, 1), (6, 83)])), (false, (.invokevirtual 123, [(0, 1), (0, 85)])), (false, (.getfield 133, [(6, 0)])), (false, (.invokevirtual 178, [(0, 1), (6, 86)])), (false, (.getfield 136, [(6, 4)])), (false, (.getfield 181, [(6, 3)])), (false, (.invokevirtual 184, [(0, 1), (7, 87)])), (false, (.putfield 133, [(6, 0)])), (false, (.getfield 188, [(7, 2)])), (false, (.invokevirtual 191, [(0, 0), (7, 90)])), (false, (.invokevirtual 195, [(0, 0), (7, 71)])), (false, (.invokevirtual 198, [(0, 0), (6, 101)])), (false, (.invokevirtual 201, [(0, 0), (6, 102)])), (false, (.invokevirtual 204, [(0, 1), (0, 103)])), (false, (.putfield 188, [(7, 2)])), (false, (.invokevirtual 207, [(0, 2), (0, 104)])), (false, (.getfield 210, [(6, 2)])), (false, (.getfield 213, [(7, 0)])), (false, (.getfield 217, [(7, 5)])), (false, (.invokevirtual 221, [(0, 2), (4, 105)])), (false, (.ldc2_w 225, [(1, 18446744073709551614)])), (false, (.putfield 227, [(7, 3)])), (false, (.getfield 231, [(7, 1)])), (false, (.getfield 234, [(6, 1)])), (false, (.getfield 227, [(7, 3)])), (false, (.invokevirtual 237, [(0, 0), (6, 106)])), (false, (.ldc2_w 126, [(1, 6364136223846793005)])), (false, (.ldc2_w 128, [(1, 1442695040888963407)])), (false, (.invokevirtual 130, [(0, 1), (6, 110)])), (false, (.invokevirtual 140, [(0, 1), (7, 70)])), (false, (.getfield 146, [(4, 2)])), (false, (.getfield 149, [(9, 0)])), (false, (.invokevirtual 150, [(0, 2), (9, 115)])), (false, (.invokevirtual 153, [(0, 1), (9, 116)])), (false, (.getfield 156, [(9, 6)])), (false, (.getfield 65, [(0, 9)])), (false, (.getfield 157, [(10, 1)])), (false, (.invokevirtual 160, [(0, 2), (10, 119)])), (false, (.getfield 164, [(10, 2)])), (false, (.getfield 168, [(10, 0)])), (false, (.invokevirtual 169, [(0, 1), (4, 121)])), (false, (.putfield 149, [(9, 0)])), (false, (.invokevirtual 173, [(0, 0), (4, 123)])), (false, (.invokevirtual 176, [(0, 0), (10, 125)])), (false, (.invokevirtual 177, [(0, 0), (6, 126)]))]
set_option maxRecDepth 100000 in
theorem lk_1_ok (fz : Bool) : ∀ e ∈ lk_1, ∀ nm : String, (e.1 = true → nm = "<init>") → rf_wk (cx0 fz) ocl0 tb0 sp0 str0 (stt0 fz) (nmO 1) nm e.2 := List.forall_mem_cons.mpr ⟨(fun nm _ => lq_1_0 fz nm), List.forall_mem_cons.mpr ⟨(fun nm _ => lq_1_1 fz nm), List.forall_mem_cons.mpr ⟨(fun nm hn => lq_1_2 fz nm (hn rfl)), List.forall_mem_cons.mpr ⟨(fun nm _ => lq_1_3 fz nm), List.forall_mem_cons.mpr ⟨(fun nm _ => lq_1_4 fz nm), List.forall_mem_cons.mpr ⟨(fun nm hn => lq_1_5 fz nm (hn rfl)), List.forall_mem_cons.mpr ⟨(fun nm _ => lq_1_6 fz nm), List.forall_mem_cons.mpr ⟨(fun nm _ => lq_1_7 fz nm), List.forall_mem_cons.mpr ⟨(fun nm _ => lq_1_8 fz nm), List.forall_mem_cons.mpr ⟨(fun nm _ => lq_1_9 fz nm), List.forall_mem_cons.mpr ⟨(fun nm _ => lq_1_10 fz nm), List.forall_mem_cons.mpr ⟨(fun nm _ => lq_1_11 fz nm), List.forall_mem_cons.mpr ⟨(fun nm _ => lq_1_12 fz nm), List.forall_mem_cons.mpr ⟨(fun nm hn => lq_1_13 fz nm (hn rfl)), List.forall_mem_cons.mpr ⟨(fun nm _ => lq_1_14 fz nm), List.forall_mem_cons.mpr ⟨(fun nm _ => lq_1_15 fz nm), List.forall_mem_cons.mpr ⟨(fun nm hn => lq_1_16 fz nm (hn rfl)), List.forall_mem_cons.mpr ⟨(fun nm _ => lq_1_17 fz nm), List.forall_mem_cons.mpr ⟨(fun nm hn => lq_1_18 fz nm (hn rfl)), List.forall_mem_cons.mpr ⟨(fun nm _ => lq_1_19 fz nm), List.forall_mem_cons.mpr ⟨(fun nm _ => lq_1_20 fz nm), List.forall_mem_cons.mpr ⟨(fun nm _ => lq_1_21 fz nm), List.forall_mem_cons.mpr ⟨(fun nm _ => lq_1_22 fz nm), List.forall_mem_cons.mpr ⟨(fun nm _ => lq_1_23 fz nm), List.forall_mem_cons.mpr ⟨(fun nm _ => lq_1_24 fz nm), List.forall_mem_cons.mpr ⟨(fun nm hn => lq_1_25 fz nm (hn rfl)), List.forall_mem_cons.mpr ⟨(fun nm _ => lq_1_26 fz nm), List.forall_mem_cons.mpr ⟨(fun nm _ => lq_1_27 fz nm), List.forall_mem_cons.mpr ⟨(fun nm hn => lq_1_28 fz nm (hn rfl)), List.forall_mem_cons.mpr ⟨(fun nm _ => lq_1_29 fz nm), List.forall_mem_cons.mpr ⟨(fun nm _ => lq_1_30 fz nm), List.forall_mem_cons.mpr ⟨(fun nm _ => lq_1_31 fz nm), List.forall_mem_cons.mpr ⟨(fun nm _ => lq_1_32 fz nm), List.forall_mem_cons.mpr ⟨(fun nm _ => lq_1_33 fz nm), List.forall_mem_cons.mpr ⟨(fun nm _ => lq_1_34 fz nm), List.forall_mem_cons.mpr ⟨(fun nm _ => lq_1_35 fz nm), List.forall_mem_cons.mpr ⟨(fun nm _ => lq_1_36 fz nm), List.forall_mem_cons.mpr ⟨(fun nm _ => lq_1_37 fz nm), List.forall_mem_cons.mpr ⟨(fun nm _ => lq_1_38 fz nm), List.forall_mem_cons.mpr ⟨(fun nm _ => lq_1_39 fz nm), List.forall_mem_cons.mpr ⟨(fun nm _ => lq_1_40 fz nm), List.forall_mem_cons.mpr ⟨(fun nm _ => lq_1_41 fz nm), List.forall_mem_cons.mpr ⟨(fun nm _ => lq_1_42 fz nm), List.forall_mem_cons.mpr ⟨(fun nm _ => lq_1_43 fz nm), List.forall_mem_cons.mpr ⟨(fun nm _ => lq_1_44 fz nm), List.forall_mem_cons.mpr ⟨(fun nm _ => lq_1_45 fz nm), List.forall_mem_cons.mpr ⟨(fun nm _ => lq_1_46 fz nm), List.forall_mem_cons.mpr ⟨(fun nm _ => lq_1_47 fz nm), List.forall_mem_cons.mpr ⟨(fun nm _ => lq_1_48 fz nm), List.forall_mem_cons.mpr ⟨(fun nm _ => lq_1_49 fz nm), List.forall_mem_cons.mpr ⟨(fun nm _ => lq_1_50 fz nm), List.forall_mem_cons.mpr ⟨(fun nm _ => lq_1_51 fz nm), List.forall_mem_cons.mpr ⟨(fun nm _ => lq_1_52 fz nm), List.forall_mem_cons.mpr ⟨(fun nm _ => lq_1_53 fz nm), List.forall_mem_cons.mpr ⟨(fun nm _ => lq_1_54 fz nm), List.forall_mem_cons.mpr ⟨(fun nm _ => lq_1_55 fz nm), List.forall_mem_cons.mpr ⟨(fun nm _ => lq_1_56 fz nm), List.forall_mem_cons.mpr ⟨(fun nm _ => lq_1_57 fz nm), List.forall_mem_cons.mpr ⟨(fun nm _ => lq_1_58 fz nm), List.forall_mem_cons.mpr ⟨(fun nm _ => lq_1_59 fz nm), List.forall_mem_cons.mpr ⟨(fun nm _ => lq_1_60 fz nm), List.forall_mem_cons.mpr ⟨(fun nm _ => lq_1_61 fz nm), List.forall_mem_cons.mpr ⟨(fun nm _ => lq_1_62 fz nm), List.forall_mem_cons.mpr ⟨(fun nm _ => lq_1_63 fz nm), List.forall_mem_cons.mpr ⟨(fun nm _ => lq_1_64 fz nm), List.forall_mem_cons.mpr ⟨(fun nm _ => lq_1_65 fz nm), List.forall_mem_cons.mpr ⟨(fun nm _ => lq_1_66 fz nm), List.forall_mem_cons.mpr ⟨(fun nm _ => lq_1_67 fz nm), List.forall_mem_cons.mpr ⟨(fun nm _ => lq_1_68 fz nm), List.forall_mem_cons.mpr ⟨(fun nm _ => lq_1_69 fz nm), List.forall_mem_cons.mpr ⟨(fun nm _ => lq_1_70 fz nm), List.forall_mem_cons.mpr ⟨(fun nm _ => lq_1_71 fz nm), List.forall_mem_cons.mpr ⟨(fun nm _ => lq_1_72 fz nm), List.forall_mem_cons.mpr ⟨(fun nm _ => lq_1_73 fz nm), List.forall_mem_cons.mpr ⟨(fun nm _ => lq_1_74 fz nm), List.forall_mem_cons.mpr ⟨(fun nm _ => lq_1_75 fz nm), List.forall_mem_cons.mpr ⟨(fun nm _ => lq_1_76 fz nm), List.forall_mem_cons.mpr ⟨(fun nm _ => lq_1_77 fz nm), List.forall_mem_cons.mpr ⟨(fun nm _ => lq_1_78 fz nm), List.forall_mem_cons.mpr ⟨(fun nm _ => lq_1_79 fz nm), List.forall_mem_cons.mpr ⟨(fun nm _ => lq_1_80 fz nm), List.forall_mem_cons.mpr ⟨(fun nm _ => lq_1_81 fz nm), List.forall_mem_cons.mpr ⟨(fun nm _ => lq_1_82 fz nm), List.forall_mem_cons.mpr ⟨(fun nm _ => lq_1_83 fz nm), List.forall_mem_cons.mpr ⟨(fun nm _ => lq_1_84 fz nm), List.forall_mem_cons.mpr ⟨(fun nm _ => lq_1_85 fz nm), List.forall_mem_cons.mpr ⟨(fun nm _ => lq_1_86 fz nm), List.forall_mem_cons.mpr ⟨(fun nm _ => lq_1_87 fz nm), List.forall_mem_cons.mpr ⟨(fun nm _ => lq_1_88 fz nm), List.forall_mem_cons.mpr ⟨(fun nm _ => lq_1_89 fz nm), List.forall_mem_cons.mpr ⟨(fun nm _ => lq_1_90 fz nm), List.forall_mem_cons.mpr ⟨(fun nm _ => lq_1_91 fz nm), List.forall_mem_cons.mpr ⟨(fun nm _ => lq_1_92 fz nm), List.forall_mem_cons.mpr ⟨(fun nm _ => lq_1_93 fz nm), fun _ h => absurd h List.not_mem_nil⟩⟩⟩⟩⟩⟩⟩⟩⟩⟩⟩⟩⟩⟩⟩⟩⟩⟩⟩⟩⟩⟩⟩⟩⟩⟩⟩⟩⟩⟩⟩⟩⟩⟩⟩⟩⟩⟩⟩⟩⟩⟩⟩⟩⟩⟩⟩⟩⟩⟩⟩⟩⟩⟩⟩⟩⟩⟩⟩⟩⟩⟩⟩⟩⟩⟩⟩⟩⟩⟩⟩⟩⟩⟩⟩⟩⟩⟩⟩⟩⟩⟩⟩⟩⟩⟩⟩⟩⟩⟩⟩⟩⟩⟩
theorem lq_2_0 (fz : Bool) (nm : String) : rf_wk (cx0 fz) ocl0 tb0 sp0 str0 (stt0 fz) "MemoryTransactions$Program" nm (.invokespecial 3, [(10, 0)]) := wk_10 (tb1 35 rfl rfl) (tb1 27 rfl rfl) (tb1 28 rfl rfl)
theorem lq_2_1 (fz : Bool) (nm : String) : rf_wk (cx0 fz) ocl0 tb0 sp0 str0 (stt0 fz) "MemoryTransactions$Program" nm (.newarray .int, []) := wk_newa (tb1 106 rfl rfl)
theorem lq_2_2 (fz : Bool) (nm : String) (hn : nm = "<init>") : rf_wk (cx0 fz) ocl0 tb0 sp0 str0 (stt0 fz) "MemoryTransactions$Program" nm (.putfield 9, [(1, 5)]) := wk_pff (ci := 1) (r := cq_1) rfl ⟨by decide, "MemoryTransactions$Program", (tb1 49 rfl rfl), Or.inl rfl⟩ rfl hn rfl
theorem lq_2_3 (fz : Bool) (nm : String) (hn : nm = "<init>") : rf_wk (cx0 fz) ocl0 tb0 sp0 str0 (stt0 fz) "MemoryTransactions$Program" nm (.putfield 15, [(1, 6)]) := wk_pff (ci := 1) (r := cq_1) rfl ⟨by decide, "MemoryTransactions$Program", (tb1 51 rfl rfl), Or.inl rfl⟩ rfl hn rfl
theorem lq_2_4 (fz : Bool) (nm : String) (hn : nm = "<init>") : rf_wk (cx0 fz) ocl0 tb0 sp0 str0 (stt0 fz) "MemoryTransactions$Program" nm (.putfield 18, [(1, 7)]) := wk_pff (ci := 1) (r := cq_1) rfl ⟨by decide, "MemoryTransactions$Program", (tb1 54 rfl rfl), Or.inl rfl⟩ rfl hn rfl
theorem lq_2_5 (fz : Bool) (nm : String) (hn : nm = "<init>") : rf_wk (cx0 fz) ocl0 tb0 sp0 str0 (stt0 fz) "MemoryTransactions$Program" nm (.putfield 21, [(1, 8)]) := wk_pff (ci := 1) (r := cq_1) rfl ⟨by decide, "MemoryTransactions$Program", (tb1 57 rfl rfl), Or.inl rfl⟩ rfl hn rfl
theorem lq_2_6 (fz : Bool) (nm : String) (hn : nm = "<init>") : rf_wk (cx0 fz) ocl0 tb0 sp0 str0 (stt0 fz) "MemoryTransactions$Program" nm (.putfield 24, [(1, 9)]) := wk_pff (ci := 1) (r := cq_1) rfl ⟨by decide, "MemoryTransactions$Program", (tb1 58 rfl rfl), Or.inl rfl⟩ rfl hn rfl
theorem lq_2_7 (fz : Bool) (nm : String) (hn : nm = "<init>") : rf_wk (cx0 fz) ocl0 tb0 sp0 str0 (stt0 fz) "MemoryTransactions$Program" nm (.putfield 27, [(1, 10)]) := wk_pff (ci := 1) (r := cq_1) rfl ⟨by decide, "MemoryTransactions$Program", (tb1 59 rfl rfl), Or.inl rfl⟩ rfl hn rfl
theorem lq_2_8 (fz : Bool) (nm : String) (hn : nm = "<init>") : rf_wk (cx0 fz) ocl0 tb0 sp0 str0 (stt0 fz) "MemoryTransactions$Program" nm (.putfield 30, [(1, 11)]) := wk_pff (ci := 1) (r := cq_1) rfl ⟨by decide, "MemoryTransactions$Program", (tb1 61 rfl rfl), Or.inl rfl⟩ rfl hn rfl
theorem lq_2_9 (fz : Bool) (nm : String) (hn : nm = "<init>") : rf_wk (cx0 fz) ocl0 tb0 sp0 str0 (stt0 fz) "MemoryTransactions$Program" nm (.putfield 33, [(1, 12)]) := wk_pff (ci := 1) (r := cq_1) rfl ⟨by decide, "MemoryTransactions$Program", (tb1 63 rfl rfl), Or.inl rfl⟩ rfl hn rfl
theorem lq_2_10 (fz : Bool) (nm : String) (hn : nm = "<init>") : rf_wk (cx0 fz) ocl0 tb0 sp0 str0 (stt0 fz) "MemoryTransactions$Program" nm (.putfield 36, [(1, 13)]) := wk_pff (ci := 1) (r := cq_1) rfl ⟨by decide, "MemoryTransactions$Program", (tb1 66 rfl rfl), Or.inl rfl⟩ rfl hn rfl
theorem lq_2_11 (fz : Bool) (nm : String) (hn : nm = "<init>") : rf_wk (cx0 fz) ocl0 tb0 sp0 str0 (stt0 fz) "MemoryTransactions$Program" nm (.putfield 39, [(1, 14)]) := wk_pff (ci := 1) (r := cq_1) rfl ⟨by decide, "MemoryTransactions$Program", (tb1 69 rfl rfl), Or.inl rfl⟩ rfl hn rfl
theorem lq_2_12 (fz : Bool) (nm : String) (hn : nm = "<init>") : rf_wk (cx0 fz) ocl0 tb0 sp0 str0 (stt0 fz) "MemoryTransactions$Program" nm (.putfield 42, [(1, 15)]) := wk_pff (ci := 1) (r := cq_1) rfl ⟨by decide, "MemoryTransactions$Program", (tb1 71 rfl rfl), Or.inl rfl⟩ rfl hn rfl
theorem lq_2_13 (fz : Bool) (nm : String) : rf_wk (cx0 fz) ocl0 tb0 sp0 str0 (stt0 fz) "MemoryTransactions$Program" nm (.putfield 45, [(1, 0)]) := wk_pf (ci := 1) (r := cq_1) rfl ⟨by decide, "MemoryTransactions$Program", (tb1 36 rfl rfl), Or.inl rfl⟩ rfl
theorem lq_2_14 (fz : Bool) (nm : String) : rf_wk (cx0 fz) ocl0 tb0 sp0 str0 (stt0 fz) "MemoryTransactions$Program" nm (.putfield 49, [(1, 1)]) := wk_pf (ci := 1) (r := cq_1) rfl ⟨by decide, "MemoryTransactions$Program", (tb1 38 rfl rfl), Or.inl rfl⟩ rfl
theorem lq_2_15 (fz : Bool) (nm : String) : rf_wk (cx0 fz) ocl0 tb0 sp0 str0 (stt0 fz) "MemoryTransactions$Program" nm (.putfield 52, [(1, 2)]) := wk_pf (ci := 1) (r := cq_1) rfl ⟨by decide, "MemoryTransactions$Program", (tb1 41 rfl rfl), Or.inl rfl⟩ rfl
theorem lq_2_16 (fz : Bool) (nm : String) : rf_wk (cx0 fz) ocl0 tb0 sp0 str0 (stt0 fz) "MemoryTransactions$Program" nm (.putfield 55, [(1, 3)]) := wk_pf (ci := 1) (r := cq_1) rfl ⟨by decide, "MemoryTransactions$Program", (tb1 45 rfl rfl), Or.inl rfl⟩ rfl
theorem lq_2_17 (fz : Bool) (nm : String) : rf_wk (cx0 fz) ocl0 tb0 sp0 str0 (stt0 fz) "MemoryTransactions$Program" nm (.putfield 58, [(1, 4)]) := wk_pf (ci := 1) (r := cq_1) rfl ⟨by decide, "MemoryTransactions$Program", (tb1 47 rfl rfl), Or.inl rfl⟩ rfl
theorem lq_2_18 (fz : Bool) (nm : String) : rf_wk (cx0 fz) ocl0 tb0 sp0 str0 (stt0 fz) "MemoryTransactions$Program" nm (.getfield 45, [(1, 0)]) := wk_gf (ci := 1) (r := cq_1) rfl ⟨by decide, "MemoryTransactions$Program", (tb1 36 rfl rfl), Or.inl rfl⟩
theorem lq_2_19 (fz : Bool) (nm : String) : rf_wk (cx0 fz) ocl0 tb0 sp0 str0 (stt0 fz) "MemoryTransactions$Program" nm (.getfield 9, [(1, 5)]) := wk_gf (ci := 1) (r := cq_1) rfl ⟨by decide, "MemoryTransactions$Program", (tb1 49 rfl rfl), Or.inl rfl⟩
theorem lq_2_20 (fz : Bool) (nm : String) : rf_wk (cx0 fz) ocl0 tb0 sp0 str0 (stt0 fz) "MemoryTransactions$Program" nm (.getfield 15, [(1, 6)]) := wk_gf (ci := 1) (r := cq_1) rfl ⟨by decide, "MemoryTransactions$Program", (tb1 51 rfl rfl), Or.inl rfl⟩
theorem lq_2_21 (fz : Bool) (nm : String) : rf_wk (cx0 fz) ocl0 tb0 sp0 str0 (stt0 fz) "MemoryTransactions$Program" nm (.getfield 18, [(1, 7)]) := wk_gf (ci := 1) (r := cq_1) rfl ⟨by decide, "MemoryTransactions$Program", (tb1 54 rfl rfl), Or.inl rfl⟩
theorem lq_2_22 (fz : Bool) (nm : String) : rf_wk (cx0 fz) ocl0 tb0 sp0 str0 (stt0 fz) "MemoryTransactions$Program" nm (.getfield 55, [(1, 3)]) := wk_gf (ci := 1) (r := cq_1) rfl ⟨by decide, "MemoryTransactions$Program", (tb1 45 rfl rfl), Or.inl rfl⟩
theorem lq_2_23 (fz : Bool) (nm : String) : rf_wk (cx0 fz) ocl0 tb0 sp0 str0 (stt0 fz) "MemoryTransactions$Program" nm (.getfield 21, [(1, 8)]) := wk_gf (ci := 1) (r := cq_1) rfl ⟨by decide, "MemoryTransactions$Program", (tb1 57 rfl rfl), Or.inl rfl⟩
theorem lq_2_24 (fz : Bool) (nm : String) : rf_wk (cx0 fz) ocl0 tb0 sp0 str0 (stt0 fz) "MemoryTransactions$Program" nm (.getfield 24, [(1, 9)]) := wk_gf (ci := 1) (r := cq_1) rfl ⟨by decide, "MemoryTransactions$Program", (tb1 58 rfl rfl), Or.inl rfl⟩
theorem lq_2_25 (fz : Bool) (nm : String) : rf_wk (cx0 fz) ocl0 tb0 sp0 str0 (stt0 fz) "MemoryTransactions$Program" nm (.getfield 27, [(1, 10)]) := wk_gf (ci := 1) (r := cq_1) rfl ⟨by decide, "MemoryTransactions$Program", (tb1 59 rfl rfl), Or.inl rfl⟩
theorem lq_2_26 (fz : Bool) (nm : String) : rf_wk (cx0 fz) ocl0 tb0 sp0 str0 (stt0 fz) "MemoryTransactions$Program" nm (.getfield 30, [(1, 11)]) := wk_gf (ci := 1) (r := cq_1) rfl ⟨by decide, "MemoryTransactions$Program", (tb1 61 rfl rfl), Or.inl rfl⟩
theorem lq_2_27 (fz : Bool) (nm : String) : rf_wk (cx0 fz) ocl0 tb0 sp0 str0 (stt0 fz) "MemoryTransactions$Program" nm (.getfield 33, [(1, 12)]) := wk_gf (ci := 1) (r := cq_1) rfl ⟨by decide, "MemoryTransactions$Program", (tb1 63 rfl rfl), Or.inl rfl⟩
theorem lq_2_28 (fz : Bool) (nm : String) : rf_wk (cx0 fz) ocl0 tb0 sp0 str0 (stt0 fz) "MemoryTransactions$Program" nm (.getfield 36, [(1, 13)]) := wk_gf (ci := 1) (r := cq_1) rfl ⟨by decide, "MemoryTransactions$Program", (tb1 66 rfl rfl), Or.inl rfl⟩
theorem lq_2_29 (fz : Bool) (nm : String) : rf_wk (cx0 fz) ocl0 tb0 sp0 str0 (stt0 fz) "MemoryTransactions$Program" nm (.getfield 39, [(1, 14)]) := wk_gf (ci := 1) (r := cq_1) rfl ⟨by decide, "MemoryTransactions$Program", (tb1 69 rfl rfl), Or.inl rfl⟩
theorem lq_2_30 (fz : Bool) (nm : String) : rf_wk (cx0 fz) ocl0 tb0 sp0 str0 (stt0 fz) "MemoryTransactions$Program" nm (.getfield 42, [(1, 15)]) := wk_gf (ci := 1) (r := cq_1) rfl ⟨by decide, "MemoryTransactions$Program", (tb1 71 rfl rfl), Or.inl rfl⟩
theorem lq_2_31 (fz : Bool) (nm : String) : rf_wk (cx0 fz) ocl0 tb0 sp0 str0 (stt0 fz) "MemoryTransactions$Program" nm (.invokevirtual 61, [(0, 1), (1, 64)]) := wk_iv (ci := 1) (r := cq_1) rfl (mtq_64 fz) (mo_64 fz) (tb3 208 rfl rfl) (tb4 88 rfl rfl) (tb3 209 rfl rfl)
theorem lq_2_32 (fz : Bool) (nm : String) : rf_wk (cx0 fz) ocl0 tb0 sp0 str0 (stt0 fz) "MemoryTransactions$Program" nm (.invokevirtual 65, [(0, 1), (1, 93)]) := wk_iv (ci := 1) (r := cq_1) rfl (mtq_93 fz) (mo_93 fz) (tb4 90 rfl rfl) (tb4 89 rfl rfl) (tb4 91 rfl rfl)
def lk_2 : List (Bool × rf_I) := [(false, (.invokespecial 3, [(10, 0)])), (false, (.newarray .int, [])), (true, (.putfield 9, [(1, 5)])), (true, (.putfield 15, [(1, 6)])), (true, (.putfield 18, [(1, 7)])), (true, (.putfield 21, [(1, 8)])), (true, (.putfield 24, [(1, 9)])), (true, (.putfield 27, [(1, 10)])), (true, (.putfield 30, [(1, 11)])), (true, (.putfield 33, [(1, 12)])), (true, (.putfield 36, [(1, 13)])), (true, (.putfield 39, [(1, 14)])), (true, (.putfield 42, [(1, 15)])), (false, (.putfield 45, [(1, 0)])), (false, (.putfield 49, [(1, 1)])), (false, (.putfield 52, [(1, 2)])), (false, (.putfield 55, [(1, 3)])), (false, (.putfield 58, [(1, 4)])), (false, (.getfield 45, [(1, 0)])), (false, (.getfield 9, [(1, 5)])), (false, (.getfield 15, [(1, 6)])), (false, (.getfield 18, [(1, 7)])), (false, (.getfield 55, [(1, 3)])), (false, (.getfield 21, [(1, 8)])), (false, (.getfield 24, [(1, 9)])), (false, (.getfield 27, [(1, 10)])), (false, (.getfield 30, [(1, 11)])), (false, (.getfield 33, [(1, 12)])), (false, (.getfield 36, [(1, 13)])), (false, (.getfield 39, [(1, 14)])), (false, (.getfield 42, [(1, 15)])), (false, (.invokevirtual 61, [(0, 1), (1, 64)])), (false, (.invokevirtual 65, [(0, 1), (1, 93)]))]
set_option maxRecDepth 100000 in
theorem lk_2_ok (fz : Bool) : ∀ e ∈ lk_2, ∀ nm : String, (e.1 = true → nm = "<init>") → rf_wk (cx0 fz) ocl0 tb0 sp0 str0 (stt0 fz) (nmO 2) nm e.2 := List.forall_mem_cons.mpr ⟨(fun nm _ => lq_2_0 fz nm), List.forall_mem_cons.mpr ⟨(fun nm _ => lq_2_1 fz nm), List.forall_mem_cons.mpr ⟨(fun nm hn => lq_2_2 fz nm (hn rfl)), List.forall_mem_cons.mpr ⟨(fun nm hn => lq_2_3 fz nm (hn rfl)), List.forall_mem_cons.mpr ⟨(fun nm hn => lq_2_4 fz nm (hn rfl)), List.forall_mem_cons.mpr ⟨(fun nm hn => lq_2_5 fz nm (hn rfl)), List.forall_mem_cons.mpr ⟨(fun nm hn => lq_2_6 fz nm (hn rfl)), List.forall_mem_cons.mpr ⟨(fun nm hn => lq_2_7 fz nm (hn rfl)), List.forall_mem_cons.mpr ⟨(fun nm hn => lq_2_8 fz nm (hn rfl)), List.forall_mem_cons.mpr ⟨(fun nm hn => lq_2_9 fz nm (hn rfl)), List.forall_mem_cons.mpr ⟨(fun nm hn => lq_2_10 fz nm (hn rfl)), List.forall_mem_cons.mpr ⟨(fun nm hn => lq_2_11 fz nm (hn rfl)), List.forall_mem_cons.mpr ⟨(fun nm hn => lq_2_12 fz nm (hn rfl)), List.forall_mem_cons.mpr ⟨(fun nm _ => lq_2_13 fz nm), List.forall_mem_cons.mpr ⟨(fun nm _ => lq_2_14 fz nm), List.forall_mem_cons.mpr ⟨(fun nm _ => lq_2_15 fz nm), List.forall_mem_cons.mpr ⟨(fun nm _ => lq_2_16 fz nm), List.forall_mem_cons.mpr ⟨(fun nm _ => lq_2_17 fz nm), List.forall_mem_cons.mpr ⟨(fun nm _ => lq_2_18 fz nm), List.forall_mem_cons.mpr ⟨(fun nm _ => lq_2_19 fz nm), List.forall_mem_cons.mpr ⟨(fun nm _ => lq_2_20 fz nm), List.forall_mem_cons.mpr ⟨(fun nm _ => lq_2_21 fz nm), List.forall_mem_cons.mpr ⟨(fun nm _ => lq_2_22 fz nm), List.forall_mem_cons.mpr ⟨(fun nm _ => lq_2_23 fz nm), List.forall_mem_cons.mpr ⟨(fun nm _ => lq_2_24 fz nm), List.forall_mem_cons.mpr ⟨(fun nm _ => lq_2_25 fz nm), List.forall_mem_cons.mpr ⟨(fun nm _ => lq_2_26 fz nm), List.forall_mem_cons.mpr ⟨(fun nm _ => lq_2_27 fz nm), List.forall_mem_cons.mpr ⟨(fun nm _ => lq_2_28 fz nm), List.forall_mem_cons.mpr ⟨(fun nm _ => lq_2_29 fz nm), List.forall_mem_cons.mpr ⟨(fun nm _ => lq_2_30 fz nm), List.forall_mem_cons.mpr ⟨(fun nm _ => lq_2_31 fz nm), List.forall_mem_cons.mpr ⟨(fun nm _ => lq_2_32 fz nm), fun _ h => absurd h List.not_mem_nil⟩⟩⟩⟩⟩⟩⟩⟩⟩⟩⟩⟩⟩⟩⟩⟩⟩⟩⟩⟩⟩⟩⟩⟩⟩⟩⟩⟩⟩⟩⟩⟩⟩
theorem lq_3_0 (fz : Bool) (nm : String) : rf_wk (cx0 fz) ocl0 tb0 sp0 str0 (stt0 fz) "MemoryTransactions$Parser" nm (.invokespecial 3, [(10, 0)]) := wk_10 (tb1 112 rfl rfl) (tb1 27 rfl rfl) (tb1 28 rfl rfl)
theorem lq_3_1 (fz : Bool) (nm : String) : rf_wk (cx0 fz) ocl0 tb0 sp0 str0 (stt0 fz) "MemoryTransactions$Parser" nm (.new 9, [(0, 3)]) := wk_new (r := cq_3) rfl (tb1 113 rfl rfl) (tb1 114 rfl rfl) (tb1 4 rfl rfl)
theorem lq_3_2 (fz : Bool) (nm : String) : rf_wk (cx0 fz) ocl0 tb0 sp0 str0 (stt0 fz) "MemoryTransactions$Parser" nm (.invokespecial 11, [(0, 0), (0, 4)]) := wk_isN (host := "MemoryTransactions") (mtq_4 fz) (mo_4 fz) (tb1 116 rfl rfl) rfl (spm 199 (by decide +kernel))
theorem lq_3_3 (fz : Bool) (nm : String) (hn : nm = "<init>") : rf_wk (cx0 fz) ocl0 tb0 sp0 str0 (stt0 fz) "MemoryTransactions$Parser" nm (.putfield 12, [(2, 0)]) := wk_pff (ci := 2) (r := cq_2) rfl ⟨by decide, "MemoryTransactions$Parser", (tb1 147 rfl rfl), Or.inl rfl⟩ rfl hn rfl
theorem lq_3_4 (fz : Bool) (nm : String) : rf_wk (cx0 fz) ocl0 tb0 sp0 str0 (stt0 fz) "MemoryTransactions$Parser" nm (.new 18, [(0, 1)]) := wk_new (r := cq_1) rfl (tb1 145 rfl rfl) (tb1 31 rfl rfl) (tb1 2 rfl rfl)
theorem lq_3_5 (fz : Bool) (nm : String) : rf_wk (cx0 fz) ocl0 tb0 sp0 str0 (stt0 fz) "MemoryTransactions$Parser" nm (.invokespecial 20, [(0, 0), (0, 2)]) := wk_isN (host := "MemoryTransactions") (mtq_2 fz) (mo_2 fz) (tb1 33 rfl rfl) rfl (spm 230 (by decide +kernel))
theorem lq_3_6 (fz : Bool) (nm : String) : rf_wk (cx0 fz) ocl0 tb0 sp0 str0 (stt0 fz) "MemoryTransactions$Parser" nm (.putfield 21, [(2, 1)]) := wk_pf (ci := 2) (r := cq_2) rfl ⟨by decide, "MemoryTransactions$Parser", (tb1 148 rfl rfl), Or.inl rfl⟩ rfl
theorem lq_3_7 (fz : Bool) (nm : String) : rf_wk (cx0 fz) ocl0 tb0 sp0 str0 (stt0 fz) "MemoryTransactions$Parser" nm (.getfield 21, [(2, 1)]) := wk_gf (ci := 2) (r := cq_2) rfl ⟨by decide, "MemoryTransactions$Parser", (tb1 148 rfl rfl), Or.inl rfl⟩
theorem lq_3_8 (fz : Bool) (nm : String) : rf_wk (cx0 fz) ocl0 tb0 sp0 str0 (stt0 fz) "MemoryTransactions$Parser" nm (.invokevirtual 25, [(0, 0), (1, 18)]) := wk_iv (ci := 1) (r := cq_1) rfl (mtq_18 fz) (mo_18 fz) (tb2 227 rfl rfl) (tb2 226 rfl rfl) (tb2 228 rfl rfl)
theorem lq_3_9 (fz : Bool) (nm : String) : rf_wk (cx0 fz) ocl0 tb0 sp0 str0 (stt0 fz) "MemoryTransactions$Parser" nm (.putfield 28, [(2, 2)]) := wk_pf (ci := 2) (r := cq_2) rfl ⟨by decide, "MemoryTransactions$Parser", (tb1 149 rfl rfl), Or.inl rfl⟩ rfl
theorem lq_3_10 (fz : Bool) (nm : String) : rf_wk (cx0 fz) ocl0 tb0 sp0 str0 (stt0 fz) "MemoryTransactions$Parser" nm (.putfield 32, [(2, 3)]) := wk_pf (ci := 2) (r := cq_2) rfl ⟨by decide, "MemoryTransactions$Parser", (tb1 150 rfl rfl), Or.inl rfl⟩ rfl
theorem lq_3_11 (fz : Bool) (nm : String) : rf_wk (cx0 fz) ocl0 tb0 sp0 str0 (stt0 fz) "MemoryTransactions$Parser" nm (.putfield 35, [(2, 4)]) := wk_pf (ci := 2) (r := cq_2) rfl ⟨by decide, "MemoryTransactions$Parser", (tb1 151 rfl rfl), Or.inl rfl⟩ rfl
theorem lq_3_12 (fz : Bool) (nm : String) : rf_wk (cx0 fz) ocl0 tb0 sp0 str0 (stt0 fz) "MemoryTransactions$Parser" nm (.getfield 12, [(2, 0)]) := wk_gf (ci := 2) (r := cq_2) rfl ⟨by decide, "MemoryTransactions$Parser", (tb1 147 rfl rfl), Or.inl rfl⟩
theorem lq_3_13 (fz : Bool) (nm : String) : rf_wk (cx0 fz) ocl0 tb0 sp0 str0 (stt0 fz) "MemoryTransactions$Parser" nm (.invokevirtual 39, [(0, 2), (3, 19)]) := wk_iv (ci := 3) (r := cq_3) rfl (mtq_19 fz) (mo_19 fz) (tb2 231 rfl rfl) (tb2 230 rfl rfl) (tb2 232 rfl rfl)
theorem lq_3_14 (fz : Bool) (nm : String) : rf_wk (cx0 fz) ocl0 tb0 sp0 str0 (stt0 fz) "MemoryTransactions$Parser" nm (.invokevirtual 43, [(0, 3), (2, 35)]) := wk_iv (ci := 2) (r := cq_2) rfl (mtq_35 fz) (mo_35 fz) (tb3 86 rfl rfl) (tb3 84 rfl rfl) (tbm 6 (by decide +kernel))
theorem lq_3_15 (fz : Bool) (nm : String) : rf_wk (cx0 fz) ocl0 tb0 sp0 str0 (stt0 fz) "MemoryTransactions$Parser" nm (.putfield 47, [(1, 4)]) := wk_pf (ci := 1) (r := cq_1) rfl ⟨by decide, "MemoryTransactions$Program", (tb1 48 rfl rfl), Or.inl rfl⟩ rfl
theorem lq_3_16 (fz : Bool) (nm : String) : rf_wk (cx0 fz) ocl0 tb0 sp0 str0 (stt0 fz) "MemoryTransactions$Parser" nm (.invokevirtual 50, [(0, 1), (2, 45)]) := wk_iv (ci := 2) (r := cq_2) rfl (mtq_45 fz) (mo_45 fz) (tb3 125 rfl rfl) (tb3 123 rfl rfl) (tbm 14 (by decide +kernel))
theorem lq_3_17 (fz : Bool) (nm : String) : rf_wk (cx0 fz) ocl0 tb0 sp0 str0 (stt0 fz) "MemoryTransactions$Parser" nm (.getfield 32, [(2, 3)]) := wk_gf (ci := 2) (r := cq_2) rfl ⟨by decide, "MemoryTransactions$Parser", (tb1 150 rfl rfl), Or.inl rfl⟩
theorem lq_3_18 (fz : Bool) (nm : String) : rf_wk (cx0 fz) ocl0 tb0 sp0 str0 (stt0 fz) "MemoryTransactions$Parser" nm (.invokevirtual 77, [(0, 0), (2, 36)]) := wk_iv (ci := 2) (r := cq_2) rfl (mtq_36 fz) (mo_36 fz) (tb3 90 rfl rfl) (tb3 88 rfl rfl) (tbm 7 (by decide +kernel))
theorem lq_3_19 (fz : Bool) (nm : String) : rf_wk (cx0 fz) ocl0 tb0 sp0 str0 (stt0 fz) "MemoryTransactions$Parser" nm (.invokevirtual 67, [(0, 1), (2, 37)]) := wk_iv (ci := 2) (r := cq_2) rfl (mtq_37 fz) (mo_37 fz) (tb3 94 rfl rfl) (tb3 92 rfl rfl) (tbm 8 (by decide +kernel))
theorem lq_3_20 (fz : Bool) (nm : String) : rf_wk (cx0 fz) ocl0 tb0 sp0 str0 (stt0 fz) "MemoryTransactions$Parser" nm (.invokevirtual 81, [(0, 3), (2, 38)]) := wk_iv (ci := 2) (r := cq_2) rfl (mtq_38 fz) (mo_38 fz) (tb3 98 rfl rfl) (tb3 96 rfl rfl) (tbm 9 (by decide +kernel))
theorem lq_3_21 (fz : Bool) (nm : String) : rf_wk (cx0 fz) ocl0 tb0 sp0 str0 (stt0 fz) "MemoryTransactions$Parser" nm (.getfield 84, [(1, 11)]) := wk_gf (ci := 1) (r := cq_1) rfl ⟨by decide, "MemoryTransactions$Program", (tb1 62 rfl rfl), Or.inl rfl⟩
theorem lq_3_22 (fz : Bool) (nm : String) : rf_wk (cx0 fz) ocl0 tb0 sp0 str0 (stt0 fz) "MemoryTransactions$Parser" nm (.getfield 58, [(3, 0)]) := wk_gf (ci := 3) (r := cq_3) rfl ⟨by decide, "MemoryTransactions$Scanner", (tb1 120 rfl rfl), Or.inl rfl⟩
theorem lq_3_23 (fz : Bool) (nm : String) : rf_wk (cx0 fz) ocl0 tb0 sp0 str0 (stt0 fz) "MemoryTransactions$Parser" nm (.getfield 28, [(2, 2)]) := wk_gf (ci := 2) (r := cq_2) rfl ⟨by decide, "MemoryTransactions$Parser", (tb1 149 rfl rfl), Or.inl rfl⟩
theorem lq_3_24 (fz : Bool) (nm : String) : rf_wk (cx0 fz) ocl0 tb0 sp0 str0 (stt0 fz) "MemoryTransactions$Parser" nm (.invokevirtual 87, [(0, 0), (2, 39)]) := wk_iv (ci := 2) (r := cq_2) rfl (mtq_39 fz) (mo_39 fz) (tb3 102 rfl rfl) (tb3 100 rfl rfl) (tbm 10 (by decide +kernel))
theorem lq_3_25 (fz : Bool) (nm : String) : rf_wk (cx0 fz) ocl0 tb0 sp0 str0 (stt0 fz) "MemoryTransactions$Parser" nm (.invokestatic 91, [(0, 1), (0, 40)]) := wk_st (mtq_40 fz) (mo_40 fz) (tb3 105 rfl rfl) (tb3 104 rfl rfl)
theorem lq_3_26 (fz : Bool) (nm : String) : rf_wk (cx0 fz) ocl0 tb0 sp0 str0 (stt0 fz) "MemoryTransactions$Parser" nm (.invokevirtual 94, [(0, 4), (1, 41)]) := wk_iv (ci := 1) (r := cq_1) rfl (mtq_41 fz) (mo_41 fz) (tb3 108 rfl rfl) (tb3 107 rfl rfl) (tb3 109 rfl rfl)
theorem lq_3_27 (fz : Bool) (nm : String) : rf_wk (cx0 fz) ocl0 tb0 sp0 str0 (stt0 fz) "MemoryTransactions$Parser" nm (.invokevirtual 74, [(0, 0), (2, 42)]) := wk_iv (ci := 2) (r := cq_2) rfl (mtq_42 fz) (mo_42 fz) (tb3 113 rfl rfl) (tb3 111 rfl rfl) (tbm 11 (by decide +kernel))
theorem lq_3_28 (fz : Bool) (nm : String) : rf_wk (cx0 fz) ocl0 tb0 sp0 str0 (stt0 fz) "MemoryTransactions$Parser" nm (.getfield 98, [(1, 6)]) := wk_gf (ci := 1) (r := cq_1) rfl ⟨by decide, "MemoryTransactions$Program", (tb1 53 rfl rfl), Or.inl rfl⟩
theorem lq_3_29 (fz : Bool) (nm : String) : rf_wk (cx0 fz) ocl0 tb0 sp0 str0 (stt0 fz) "MemoryTransactions$Parser" nm (.invokevirtual 101, [(0, 0), (2, 43)]) := wk_iv (ci := 2) (r := cq_2) rfl (mtq_43 fz) (mo_43 fz) (tb3 117 rfl rfl) (tb3 115 rfl rfl) (tbm 12 (by decide +kernel))
theorem lq_3_30 (fz : Bool) (nm : String) : rf_wk (cx0 fz) ocl0 tb0 sp0 str0 (stt0 fz) "MemoryTransactions$Parser" nm (.invokevirtual 71, [(0, 0), (2, 44)]) := wk_iv (ci := 2) (r := cq_2) rfl (mtq_44 fz) (mo_44 fz) (tb3 121 rfl rfl) (tb3 119 rfl rfl) (tbm 13 (by decide +kernel))
theorem lq_3_31 (fz : Bool) (nm : String) : rf_wk (cx0 fz) ocl0 tb0 sp0 str0 (stt0 fz) "MemoryTransactions$Parser" nm (.invokevirtual 104, [(0, 0), (2, 46)]) := wk_iv (ci := 2) (r := cq_2) rfl (mtq_46 fz) (mo_46 fz) (tb3 129 rfl rfl) (tb3 127 rfl rfl) (tbm 15 (by decide +kernel))
theorem lq_3_32 (fz : Bool) (nm : String) : rf_wk (cx0 fz) ocl0 tb0 sp0 str0 (stt0 fz) "MemoryTransactions$Parser" nm (.invokevirtual 107, [(0, 3), (2, 53)]) := wk_iv (ci := 2) (r := cq_2) rfl (mtq_53 fz) (mo_53 fz) (tb3 156 rfl rfl) (tb3 154 rfl rfl) (tbm 20 (by decide +kernel))
theorem lq_3_33 (fz : Bool) (nm : String) : rf_wk (cx0 fz) ocl0 tb0 sp0 str0 (stt0 fz) "MemoryTransactions$Parser" nm (.getfield 54, [(3, 1)]) := wk_gf (ci := 3) (r := cq_3) rfl ⟨by decide, "MemoryTransactions$Scanner", (tb1 122 rfl rfl), Or.inl rfl⟩
theorem lq_3_34 (fz : Bool) (nm : String) : rf_wk (cx0 fz) ocl0 tb0 sp0 str0 (stt0 fz) "MemoryTransactions$Parser" nm (.getfield 61, [(3, 2)]) := wk_gf (ci := 3) (r := cq_3) rfl ⟨by decide, "MemoryTransactions$Scanner", (tb1 124 rfl rfl), Or.inl rfl⟩
theorem lq_3_35 (fz : Bool) (nm : String) : rf_wk (cx0 fz) ocl0 tb0 sp0 str0 (stt0 fz) "MemoryTransactions$Parser" nm (.getfield 64, [(3, 3)]) := wk_gf (ci := 3) (r := cq_3) rfl ⟨by decide, "MemoryTransactions$Scanner", (tb1 126 rfl rfl), Or.inl rfl⟩
theorem lq_3_36 (fz : Bool) (nm : String) : rf_wk (cx0 fz) ocl0 tb0 sp0 str0 (stt0 fz) "MemoryTransactions$Parser" nm (.invokevirtual 111, [(0, 1), (2, 47)]) := wk_iv (ci := 2) (r := cq_2) rfl (mtq_47 fz) (mo_47 fz) (tb3 133 rfl rfl) (tb3 131 rfl rfl) (tbm 16 (by decide +kernel))
theorem lq_3_37 (fz : Bool) (nm : String) : rf_wk (cx0 fz) ocl0 tb0 sp0 str0 (stt0 fz) "MemoryTransactions$Parser" nm (.invokevirtual 114, [(0, 2), (1, 51)]) := wk_iv (ci := 1) (r := cq_1) rfl (mtq_51 fz) (mo_51 fz) (tb3 148 rfl rfl) (tb3 147 rfl rfl) (tb3 149 rfl rfl)
theorem lq_3_38 (fz : Bool) (nm : String) : rf_wk (cx0 fz) ocl0 tb0 sp0 str0 (stt0 fz) "MemoryTransactions$Parser" nm (.invokevirtual 142, [(0, 1), (2, 48)]) := wk_iv (ci := 2) (r := cq_2) rfl (mtq_48 fz) (mo_48 fz) (tb3 137 rfl rfl) (tb3 135 rfl rfl) (tbm 17 (by decide +kernel))
theorem lq_3_39 (fz : Bool) (nm : String) : rf_wk (cx0 fz) ocl0 tb0 sp0 str0 (stt0 fz) "MemoryTransactions$Parser" nm (.invokevirtual 145, [(0, 1), (2, 49)]) := wk_iv (ci := 2) (r := cq_2) rfl (mtq_49 fz) (mo_49 fz) (tb3 141 rfl rfl) (tb3 139 rfl rfl) (tbm 18 (by decide +kernel))
theorem lq_3_40 (fz : Bool) (nm : String) : rf_wk (cx0 fz) ocl0 tb0 sp0 str0 (stt0 fz) "MemoryTransactions$Parser" nm (.invokevirtual 148, [(0, 1), (2, 50)]) := wk_iv (ci := 2) (r := cq_2) rfl (mtq_50 fz) (mo_50 fz) (tb3 145 rfl rfl) (tb3 143 rfl rfl) (tbm 19 (by decide +kernel))
theorem lq_3_41 (fz : Bool) (nm : String) : rf_wk (cx0 fz) ocl0 tb0 sp0 str0 (stt0 fz) "MemoryTransactions$Parser" nm (.getfield 151, [(1, 1)]) := wk_gf (ci := 1) (r := cq_1) rfl ⟨by decide, "MemoryTransactions$Program", (tb1 40 rfl rfl), Or.inl rfl⟩
theorem lq_3_42 (fz : Bool) (nm : String) : rf_wk (cx0 fz) ocl0 tb0 sp0 str0 (stt0 fz) "MemoryTransactions$Parser" nm (.putfield 151, [(1, 1)]) := wk_pf (ci := 1) (r := cq_1) rfl ⟨by decide, "MemoryTransactions$Program", (tb1 40 rfl rfl), Or.inl rfl⟩ rfl
theorem lq_3_43 (fz : Bool) (nm : String) : rf_wk (cx0 fz) ocl0 tb0 sp0 str0 (stt0 fz) "MemoryTransactions$Parser" nm (.invokestatic 130, [(0, 1), (0, 52)]) := wk_stN (host := "MemoryTransactions") (mtq_52 fz) (mo_52 fz) (tb3 152 rfl rfl) (spm 715 (by decide +kernel))
theorem lq_3_44 (fz : Bool) (nm : String) : rf_wk (cx0 fz) ocl0 tb0 sp0 str0 (stt0 fz) "MemoryTransactions$Parser" nm (.getfield 35, [(2, 4)]) := wk_gf (ci := 2) (r := cq_2) rfl ⟨by decide, "MemoryTransactions$Parser", (tb1 151 rfl rfl), Or.inl rfl⟩
theorem lq_3_45 (fz : Bool) (nm : String) : rf_wk (cx0 fz) ocl0 tb0 sp0 str0 (stt0 fz) "MemoryTransactions$Parser" nm (.getfield 118, [(1, 12)]) := wk_gf (ci := 1) (r := cq_1) rfl ⟨by decide, "MemoryTransactions$Program", (tb1 65 rfl rfl), Or.inl rfl⟩
theorem lq_3_46 (fz : Bool) (nm : String) : rf_wk (cx0 fz) ocl0 tb0 sp0 str0 (stt0 fz) "MemoryTransactions$Parser" nm (.invokevirtual 121, [(0, 3), (2, 54)]) := wk_iv (ci := 2) (r := cq_2) rfl (mtq_54 fz) (mo_54 fz) (tb3 160 rfl rfl) (tb3 158 rfl rfl) (tbm 21 (by decide +kernel))
theorem lq_3_47 (fz : Bool) (nm : String) : rf_wk (cx0 fz) ocl0 tb0 sp0 str0 (stt0 fz) "MemoryTransactions$Parser" nm (.getfield 124, [(1, 13)]) := wk_gf (ci := 1) (r := cq_1) rfl ⟨by decide, "MemoryTransactions$Program", (tb1 68 rfl rfl), Or.inl rfl⟩
theorem lq_3_48 (fz : Bool) (nm : String) : rf_wk (cx0 fz) ocl0 tb0 sp0 str0 (stt0 fz) "MemoryTransactions$Parser" nm (.invokevirtual 127, [(0, 0), (2, 55)]) := wk_iv (ci := 2) (r := cq_2) rfl (mtq_55 fz) (mo_55 fz) (tb3 167 rfl rfl) (tb3 165 rfl rfl) (tbm 22 (by decide +kernel))
theorem lq_3_49 (fz : Bool) (nm : String) : rf_wk (cx0 fz) ocl0 tb0 sp0 str0 (stt0 fz) "MemoryTransactions$Parser" nm (.getfield 133, [(1, 2)]) := wk_gf (ci := 1) (r := cq_1) rfl ⟨by decide, "MemoryTransactions$Program", (tb1 43 rfl rfl), Or.inl rfl⟩
theorem lq_3_50 (fz : Bool) (nm : String) : rf_wk (cx0 fz) ocl0 tb0 sp0 str0 (stt0 fz) "MemoryTransactions$Parser" nm (.invokestatic 136, [(13, 0)]) := wk_13 (tb3 162 rfl rfl) (tb3 163 rfl rfl) (tb1 14 rfl rfl) (tb3 164 rfl rfl)
theorem lq_3_51 (fz : Bool) (nm : String) : rf_wk (cx0 fz) ocl0 tb0 sp0 str0 (stt0 fz) "MemoryTransactions$Parser" nm (.putfield 133, [(1, 2)]) := wk_pf (ci := 1) (r := cq_1) rfl ⟨by decide, "MemoryTransactions$Program", (tb1 43 rfl rfl), Or.inl rfl⟩ rfl
def lk_3 : List (Bool × rf_I) := [(false, (.invokespecial 3, [(10, 0)])), (false, (.new 9, [(0, 3)])), (false, (.invokespecial 11, [(0, 0), (0, 4)])), (true, (.putfield 12, [(2, 0)])), (false, (.new 18, [(0, 1)])), (false, (.invokespecial 20, [(0, 0), (0, 2)])), (false, (.putfield 21, [(2, 1)])), (false, (.getfield 21, [(2, 1)])), (false, (.invokevirtual 25, [(0, 0), (1, 18)])), (false, (.putfield 28, [(2, 2)])), (false, (.putfield 32, [(2, 3)])), (false, (.putfield 35, [(2, 4)])), (false, (.getfield 12, [(2, 0)])), (false, (.invokevirtual 39, [(0, 2), (3, 19)])), (false, (.invokevirtual 43, [(0, 3), (2, 35)])), (false, (.putfield 47, [(1, 4)])), (false, (.invokevirtual 50, [(0, 1), (2, 45)])), (false, (.getfield 32, [(2, 3)])), (false, (.invokevirtual 77, [(0, 0), (2, 36)])), (false, (.invokevirtual 67, [(0, 1), (2, 37)])), (false, (.invokevirtual 81, [(0, 3), (2, 38)])), (false, (.getfield 84, [(1, 11)])), (false, (.getfield 58, [(3, 0)])), (false, (.getfield 28, [(2, 2)])), (false, (.invokevirtual 87, [(0, 0), (2, 39)])), (false, (.invokestatic 91, [(0, 1), (0, 40)])), (false, (.invokevirtual 94, [(0, 4), (1, 41)])), (false, (.invokevirtual 74, [(0, 0), (2, 42)])), (false, (.getfield 98, [(1, 6)])), (false, (.invokevirtual 101, [(0, 0), (2, 43)])), (false, (.invokevirtual 71, [(0, 0), (2, 44)])), (false, (.invokevirtual 104, [(0, 0), (2, 46)])), (false, (.invokevirtual 107, [(0, 3), (2, 53)])), (false, (.getfield 54, [(3, 1)])), (false, (.getfield 61, [(3, 2)])), (false, (.getfield 64, [(3, 3)])), (false, (.invokevirtual 111, [(0, 1), (2, 47)])), (false, (.invokevirtual 114, [(0, 2), (1, 51)])), (false, (.invokevirtual 142, [(0, 1), (2, 48)])), (false, (.invokevirtual 145, [(0, 1), (2, 49)])), (false, (.invokevirtual 148, [(0, 1), (2, 50)])), (false, (.getfield 151, [(1, 1)])), (false, (.putfield 151, [(1, 1)])), (false, (.invokestatic 130, [(0, 1), (0, 52)])), (false, (.getfield 35, [(2, 4)])), (false, (.getfield 118, [(1, 12)])), (false, (.invokevirtual 121, [(0, 3), (2, 54)])), (false, (.getfield 124, [(1, 13)])), (false, (.invokevirtual 127, [(0, 0), (2, 55)])), (false, (.getfield 133, [(1, 2)])), (false, (.invokestatic 136, [(13, 0)])), (false, (.putfield 133, [(1, 2)]))]
set_option maxRecDepth 100000 in
theorem lk_3_ok (fz : Bool) : ∀ e ∈ lk_3, ∀ nm : String, (e.1 = true → nm = "<init>") → rf_wk (cx0 fz) ocl0 tb0 sp0 str0 (stt0 fz) (nmO 3) nm e.2 := List.forall_mem_cons.mpr ⟨(fun nm _ => lq_3_0 fz nm), List.forall_mem_cons.mpr ⟨(fun nm _ => lq_3_1 fz nm), List.forall_mem_cons.mpr ⟨(fun nm _ => lq_3_2 fz nm), List.forall_mem_cons.mpr ⟨(fun nm hn => lq_3_3 fz nm (hn rfl)), List.forall_mem_cons.mpr ⟨(fun nm _ => lq_3_4 fz nm), List.forall_mem_cons.mpr ⟨(fun nm _ => lq_3_5 fz nm), List.forall_mem_cons.mpr ⟨(fun nm _ => lq_3_6 fz nm), List.forall_mem_cons.mpr ⟨(fun nm _ => lq_3_7 fz nm), List.forall_mem_cons.mpr ⟨(fun nm _ => lq_3_8 fz nm), List.forall_mem_cons.mpr ⟨(fun nm _ => lq_3_9 fz nm), List.forall_mem_cons.mpr ⟨(fun nm _ => lq_3_10 fz nm), List.forall_mem_cons.mpr ⟨(fun nm _ => lq_3_11 fz nm), List.forall_mem_cons.mpr ⟨(fun nm _ => lq_3_12 fz nm), List.forall_mem_cons.mpr ⟨(fun nm _ => lq_3_13 fz nm), List.forall_mem_cons.mpr ⟨(fun nm _ => lq_3_14 fz nm), List.forall_mem_cons.mpr ⟨(fun nm _ => lq_3_15 fz nm), List.forall_mem_cons.mpr ⟨(fun nm _ => lq_3_16 fz nm), List.forall_mem_cons.mpr ⟨(fun nm _ => lq_3_17 fz nm), List.forall_mem_cons.mpr ⟨(fun nm _ => lq_3_18 fz nm), List.forall_mem_cons.mpr ⟨(fun nm _ => lq_3_19 fz nm), List.forall_mem_cons.mpr ⟨(fun nm _ => lq_3_20 fz nm), List.forall_mem_cons.mpr ⟨(fun nm _ => lq_3_21 fz nm), List.forall_mem_cons.mpr ⟨(fun nm _ => lq_3_22 fz nm), List.forall_mem_cons.mpr ⟨(fun nm _ => lq_3_23 fz nm), List.forall_mem_cons.mpr ⟨(fun nm _ => lq_3_24 fz nm), List.forall_mem_cons.mpr ⟨(fun nm _ => lq_3_25 fz nm), List.forall_mem_cons.mpr ⟨(fun nm _ => lq_3_26 fz nm), List.forall_mem_cons.mpr ⟨(fun nm _ => lq_3_27 fz nm), List.forall_mem_cons.mpr ⟨(fun nm _ => lq_3_28 fz nm), List.forall_mem_cons.mpr ⟨(fun nm _ => lq_3_29 fz nm), List.forall_mem_cons.mpr ⟨(fun nm _ => lq_3_30 fz nm), List.forall_mem_cons.mpr ⟨(fun nm _ => lq_3_31 fz nm), List.forall_mem_cons.mpr ⟨(fun nm _ => lq_3_32 fz nm), List.forall_mem_cons.mpr ⟨(fun nm _ => lq_3_33 fz nm), List.forall_mem_cons.mpr ⟨(fun nm _ => lq_3_34 fz nm), List.forall_mem_cons.mpr ⟨(fun nm _ => lq_3_35 fz nm), List.forall_mem_cons.mpr ⟨(fun nm _ => lq_3_36 fz nm), List.forall_mem_cons.mpr ⟨(fun nm _ => lq_3_37 fz nm), List.forall_mem_cons.mpr ⟨(fun nm _ => lq_3_38 fz nm), List.forall_mem_cons.mpr ⟨(fun nm _ => lq_3_39 fz nm), List.forall_mem_cons.mpr ⟨(fun nm _ => lq_3_40 fz nm), List.forall_mem_cons.mpr ⟨(fun nm _ => lq_3_41 fz nm), List.forall_mem_cons.mpr ⟨(fun nm _ => lq_3_42 fz nm), List.forall_mem_cons.mpr ⟨(fun nm _ => lq_3_43 fz nm), List.forall_mem_cons.mpr ⟨(fun nm _ => lq_3_44 fz nm), List.forall_mem_cons.mpr ⟨(fun nm _ => lq_3_45 fz nm), List.forall_mem_cons.mpr ⟨(fun nm _ => lq_3_46 fz nm), List.forall_mem_cons.mpr ⟨(fun nm _ => lq_3_47 fz nm), List.forall_mem_cons.mpr ⟨(fun nm _ => lq_3_48 fz nm), List.forall_mem_cons.mpr ⟨(fun nm _ => lq_3_49 fz nm), List.forall_mem_cons.mpr ⟨(fun nm _ => lq_3_50 fz nm), List.forall_mem_cons.mpr ⟨(fun nm _ => lq_3_51 fz nm), fun _ h => absurd h List.not_mem_nil⟩⟩⟩⟩⟩⟩⟩⟩⟩⟩⟩⟩⟩⟩⟩⟩⟩⟩⟩⟩⟩⟩⟩⟩⟩⟩⟩⟩⟩⟩⟩⟩⟩⟩⟩⟩⟩⟩⟩⟩⟩⟩⟩⟩⟩⟩⟩⟩⟩⟩⟩⟩
theorem lq_4_0 (fz : Bool) (nm : String) : rf_wk (cx0 fz) ocl0 tb0 sp0 str0 (stt0 fz) "MemoryTransactions$Scanner" nm (.invokespecial 3, [(10, 0)]) := wk_10 (tb1 118 rfl rfl) (tb1 27 rfl rfl) (tb1 28 rfl rfl)
theorem lq_4_1 (fz : Bool) (nm : String) : rf_wk (cx0 fz) ocl0 tb0 sp0 str0 (stt0 fz) "MemoryTransactions$Scanner" nm (.newarray .int, []) := wk_newa (tb1 106 rfl rfl)
theorem lq_4_2 (fz : Bool) (nm : String) (hn : nm = "<init>") : rf_wk (cx0 fz) ocl0 tb0 sp0 str0 (stt0 fz) "MemoryTransactions$Scanner" nm (.putfield 9, [(3, 0)]) := wk_pff (ci := 3) (r := cq_3) rfl ⟨by decide, "MemoryTransactions$Scanner", (tb1 119 rfl rfl), Or.inl rfl⟩ rfl hn rfl
theorem lq_4_3 (fz : Bool) (nm : String) (hn : nm = "<init>") : rf_wk (cx0 fz) ocl0 tb0 sp0 str0 (stt0 fz) "MemoryTransactions$Scanner" nm (.putfield 15, [(3, 1)]) := wk_pff (ci := 3) (r := cq_3) rfl ⟨by decide, "MemoryTransactions$Scanner", (tb1 121 rfl rfl), Or.inl rfl⟩ rfl hn rfl
theorem lq_4_4 (fz : Bool) (nm : String) (hn : nm = "<init>") : rf_wk (cx0 fz) ocl0 tb0 sp0 str0 (stt0 fz) "MemoryTransactions$Scanner" nm (.putfield 18, [(3, 2)]) := wk_pff (ci := 3) (r := cq_3) rfl ⟨by decide, "MemoryTransactions$Scanner", (tb1 123 rfl rfl), Or.inl rfl⟩ rfl hn rfl
theorem lq_4_5 (fz : Bool) (nm : String) : rf_wk (cx0 fz) ocl0 tb0 sp0 str0 (stt0 fz) "MemoryTransactions$Scanner" nm (.putfield 21, [(3, 4)]) := wk_pf (ci := 3) (r := cq_3) rfl ⟨by decide, "MemoryTransactions$Scanner", (tb1 127 rfl rfl), Or.inl rfl⟩ rfl
theorem lq_4_6 (fz : Bool) (nm : String) : rf_wk (cx0 fz) ocl0 tb0 sp0 str0 (stt0 fz) "MemoryTransactions$Scanner" nm (.invokestatic 24, [(12, 0)]) := wk_12 (tb2 234 rfl rfl) (tb2 235 rfl rfl) (tb1 14 rfl rfl) (tb2 236 rfl rfl)
theorem lq_4_7 (fz : Bool) (nm : String) : rf_wk (cx0 fz) ocl0 tb0 sp0 str0 (stt0 fz) "MemoryTransactions$Scanner" nm (.putfield 30, [(3, 5)]) := wk_pf (ci := 3) (r := cq_3) rfl ⟨by decide, "MemoryTransactions$Scanner", (tb1 128 rfl rfl), Or.inl rfl⟩ rfl
theorem lq_4_8 (fz : Bool) (nm : String) : rf_wk (cx0 fz) ocl0 tb0 sp0 str0 (stt0 fz) "MemoryTransactions$Scanner" nm (.putfield 34, [(3, 6)]) := wk_pf (ci := 3) (r := cq_3) rfl ⟨by decide, "MemoryTransactions$Scanner", (tb1 129 rfl rfl), Or.inl rfl⟩ rfl
theorem lq_4_9 (fz : Bool) (nm : String) : rf_wk (cx0 fz) ocl0 tb0 sp0 str0 (stt0 fz) "MemoryTransactions$Scanner" nm (.putfield 37, [(3, 3)]) := wk_pf (ci := 3) (r := cq_3) rfl ⟨by decide, "MemoryTransactions$Scanner", (tb1 125 rfl rfl), Or.inl rfl⟩ rfl
theorem lq_4_10 (fz : Bool) (nm : String) : rf_wk (cx0 fz) ocl0 tb0 sp0 str0 (stt0 fz) "MemoryTransactions$Scanner" nm (.getfield 34, [(3, 6)]) := wk_gf (ci := 3) (r := cq_3) rfl ⟨by decide, "MemoryTransactions$Scanner", (tb1 129 rfl rfl), Or.inl rfl⟩
theorem lq_4_11 (fz : Bool) (nm : String) : rf_wk (cx0 fz) ocl0 tb0 sp0 str0 (stt0 fz) "MemoryTransactions$Scanner" nm (.getfield 30, [(3, 5)]) := wk_gf (ci := 3) (r := cq_3) rfl ⟨by decide, "MemoryTransactions$Scanner", (tb1 128 rfl rfl), Or.inl rfl⟩
theorem lq_4_12 (fz : Bool) (nm : String) : rf_wk (cx0 fz) ocl0 tb0 sp0 str0 (stt0 fz) "MemoryTransactions$Scanner" nm (.getfield 21, [(3, 4)]) := wk_gf (ci := 3) (r := cq_3) rfl ⟨by decide, "MemoryTransactions$Scanner", (tb1 127 rfl rfl), Or.inl rfl⟩
theorem lq_4_13 (fz : Bool) (nm : String) : rf_wk (cx0 fz) ocl0 tb0 sp0 str0 (stt0 fz) "MemoryTransactions$Scanner" nm (.invokevirtual 40, [(0, 0), (3, 20)]) := wk_iv (ci := 3) (r := cq_3) rfl (mtq_20 fz) (mo_20 fz) (tb2 239 rfl rfl) (tb2 237 rfl rfl) (tbm 1 (by decide +kernel))
theorem lq_4_14 (fz : Bool) (nm : String) : rf_wk (cx0 fz) ocl0 tb0 sp0 str0 (stt0 fz) "MemoryTransactions$Scanner" nm (.getfield 37, [(3, 3)]) := wk_gf (ci := 3) (r := cq_3) rfl ⟨by decide, "MemoryTransactions$Scanner", (tb1 125 rfl rfl), Or.inl rfl⟩
theorem lq_4_15 (fz : Bool) (nm : String) : rf_wk (cx0 fz) ocl0 tb0 sp0 str0 (stt0 fz) "MemoryTransactions$Scanner" nm (.getfield 9, [(3, 0)]) := wk_gf (ci := 3) (r := cq_3) rfl ⟨by decide, "MemoryTransactions$Scanner", (tb1 119 rfl rfl), Or.inl rfl⟩
theorem lq_4_16 (fz : Bool) (nm : String) : rf_wk (cx0 fz) ocl0 tb0 sp0 str0 (stt0 fz) "MemoryTransactions$Scanner" nm (.getfield 15, [(3, 1)]) := wk_gf (ci := 3) (r := cq_3) rfl ⟨by decide, "MemoryTransactions$Scanner", (tb1 121 rfl rfl), Or.inl rfl⟩
theorem lq_4_17 (fz : Bool) (nm : String) : rf_wk (cx0 fz) ocl0 tb0 sp0 str0 (stt0 fz) "MemoryTransactions$Scanner" nm (.getfield 18, [(3, 2)]) := wk_gf (ci := 3) (r := cq_3) rfl ⟨by decide, "MemoryTransactions$Scanner", (tb1 123 rfl rfl), Or.inl rfl⟩
theorem lq_4_18 (fz : Bool) (nm : String) : rf_wk (cx0 fz) ocl0 tb0 sp0 str0 (stt0 fz) "MemoryTransactions$Scanner" nm (.invokestatic 43, [(0, 1), (0, 21)]) := wk_st (mtq_21 fz) (mo_21 fz) (tb3 2 rfl rfl) (tb3 1 rfl rfl)
theorem lq_4_19 (fz : Bool) (nm : String) : rf_wk (cx0 fz) ocl0 tb0 sp0 str0 (stt0 fz) "MemoryTransactions$Scanner" nm (.invokevirtual 47, [(0, 0), (3, 22)]) := wk_iv (ci := 3) (r := cq_3) rfl (mtq_22 fz) (mo_22 fz) (tb3 6 rfl rfl) (tb3 4 rfl rfl) (tbm 2 (by decide +kernel))
theorem lq_4_20 (fz : Bool) (nm : String) : rf_wk (cx0 fz) ocl0 tb0 sp0 str0 (stt0 fz) "MemoryTransactions$Scanner" nm (.invokestatic 50, [(0, 1), (0, 32)]) := wk_st (mtq_32 fz) (mo_32 fz) (tb3 75 rfl rfl) (tb3 74 rfl rfl)
theorem lq_4_21 (fz : Bool) (nm : String) : rf_wk (cx0 fz) ocl0 tb0 sp0 str0 (stt0 fz) "MemoryTransactions$Scanner" nm (.invokevirtual 53, [(0, 0), (3, 33)]) := wk_iv (ci := 3) (r := cq_3) rfl (mtq_33 fz) (mo_33 fz) (tb3 79 rfl rfl) (tb3 77 rfl rfl) (tbm 5 (by decide +kernel))
theorem lq_4_22 (fz : Bool) (nm : String) : rf_wk (cx0 fz) ocl0 tb0 sp0 str0 (stt0 fz) "MemoryTransactions$Scanner" nm (.invokestatic 56, [(0, 1), (0, 34)]) := wk_st (mtq_34 fz) (mo_34 fz) (tb3 82 rfl rfl) (tb3 81 rfl rfl)
theorem lq_4_23 (fz : Bool) (nm : String) : rf_wk (cx0 fz) ocl0 tb0 sp0 str0 (stt0 fz) "MemoryTransactions$Scanner" nm (.invokevirtual 59, [(0, 1), (3, 23)]) := wk_iv (ci := 3) (r := cq_3) rfl (mtq_23 fz) (mo_23 fz) (tb3 10 rfl rfl) (tb3 8 rfl rfl) (tbm 3 (by decide +kernel))
theorem lq_4_24 (fz : Bool) (nm : String) : rf_wk (cx0 fz) ocl0 tb0 sp0 str0 (stt0 fz) "MemoryTransactions$Scanner" nm (.ldc 63, [(2, 2)]) := wk_ls (tx := "if") (List.mem_of_getElem? (i := 0) rfl)
theorem lq_4_25 (fz : Bool) (nm : String) : rf_wk (cx0 fz) ocl0 tb0 sp0 str0 (stt0 fz) "MemoryTransactions$Scanner" nm (.invokevirtual 65, [(0, 2), (3, 24)]) := wk_iv (ci := 3) (r := cq_3) rfl (mtq_24 fz) (mo_24 fz) (tb3 15 rfl rfl) (tb3 13 rfl rfl) (tbm 4 (by decide +kernel))
theorem lq_4_26 (fz : Bool) (nm : String) : rf_wk (cx0 fz) ocl0 tb0 sp0 str0 (stt0 fz) "MemoryTransactions$Scanner" nm (.ldc 69, [(2, 4)]) := wk_ls (tx := "else") (List.mem_of_getElem? (i := 1) rfl)
theorem lq_4_27 (fz : Bool) (nm : String) : rf_wk (cx0 fz) ocl0 tb0 sp0 str0 (stt0 fz) "MemoryTransactions$Scanner" nm (.ldc 71, [(2, 6)]) := wk_ls (tx := "while") (List.mem_of_getElem? (i := 2) rfl)
theorem lq_4_28 (fz : Bool) (nm : String) : rf_wk (cx0 fz) ocl0 tb0 sp0 str0 (stt0 fz) "MemoryTransactions$Scanner" nm (.ldc 73, [(2, 8)]) := wk_ls (tx := "retry") (List.mem_of_getElem? (i := 3) rfl)
theorem lq_4_29 (fz : Bool) (nm : String) : rf_wk (cx0 fz) ocl0 tb0 sp0 str0 (stt0 fz) "MemoryTransactions$Scanner" nm (.ldc 75, [(2, 10)]) := wk_ls (tx := "throw") (List.mem_of_getElem? (i := 4) rfl)
theorem lq_4_30 (fz : Bool) (nm : String) : rf_wk (cx0 fz) ocl0 tb0 sp0 str0 (stt0 fz) "MemoryTransactions$Scanner" nm (.ldc 77, [(2, 12)]) := wk_ls (tx := "either") (List.mem_of_getElem? (i := 5) rfl)
theorem lq_4_31 (fz : Bool) (nm : String) : rf_wk (cx0 fz) ocl0 tb0 sp0 str0 (stt0 fz) "MemoryTransactions$Scanner" nm (.ldc 79, [(2, 14)]) := wk_ls (tx := "or") (List.mem_of_getElem? (i := 6) rfl)
theorem lq_4_32 (fz : Bool) (nm : String) : rf_wk (cx0 fz) ocl0 tb0 sp0 str0 (stt0 fz) "MemoryTransactions$Scanner" nm (.ldc 81, [(2, 16)]) := wk_ls (tx := "try") (List.mem_of_getElem? (i := 7) rfl)
theorem lq_4_33 (fz : Bool) (nm : String) : rf_wk (cx0 fz) ocl0 tb0 sp0 str0 (stt0 fz) "MemoryTransactions$Scanner" nm (.ldc 83, [(2, 18)]) := wk_ls (tx := "catch") (List.mem_of_getElem? (i := 8) rfl)
theorem lq_4_34 (fz : Bool) (nm : String) : rf_wk (cx0 fz) ocl0 tb0 sp0 str0 (stt0 fz) "MemoryTransactions$Scanner" nm (.ldc 85, [(2, 20)]) := wk_ls (tx := "always") (List.mem_of_getElem? (i := 9) rfl)
theorem lq_4_35 (fz : Bool) (nm : String) : rf_wk (cx0 fz) ocl0 tb0 sp0 str0 (stt0 fz) "MemoryTransactions$Scanner" nm (.invokevirtual 87, [(0, 0), (-1, 25)]) := wk_ivo (r := oq_0) rfl (mtq_25 fz) (mo_25 fz) (tb3 18 rfl rfl) (tb3 17 rfl rfl) (tb3 19 rfl rfl)
theorem lq_4_36 (fz : Bool) (nm : String) : rf_wk (cx0 fz) ocl0 tb0 sp0 str0 (stt0 fz) "MemoryTransactions$Scanner" nm (.invokevirtual 92, [(0, 1), (-1, 27)]) := wk_ivo (r := oq_0) rfl (mtq_27 fz) (mo_27 fz) (tb3 28 rfl rfl) (tb3 27 rfl rfl) (tb3 29 rfl rfl)
def lk_4 : List (Bool × rf_I) := [(false, (.invokespecial 3, [(10, 0)])), (false, (.newarray .int, [])), (true, (.putfield 9, [(3, 0)])), (true, (.putfield 15, [(3, 1)])), (true, (.putfield 18, [(3, 2)])), (false, (.putfield 21, [(3, 4)])), (false, (.invokestatic 24, [(12, 0)])), (false, (.putfield 30, [(3, 5)])), (false, (.putfield 34, [(3, 6)])), (false, (.putfield 37, [(3, 3)])), (false, (.getfield 34, [(3, 6)])), (false, (.getfield 30, [(3, 5)])), (false, (.getfield 21, [(3, 4)])), (false, (.invokevirtual 40, [(0, 0), (3, 20)])), (false, (.getfield 37, [(3, 3)])), (false, (.getfield 9, [(3, 0)])), (false, (.getfield 15, [(3, 1)])), (false, (.getfield 18, [(3, 2)])), (false, (.invokestatic 43, [(0, 1), (0, 21)])), (false, (.invokevirtual 47, [(0, 0), (3, 22)])), (false, (.invokestatic 50, [(0, 1), (0, 32)])), (false, (.invokevirtual 53, [(0, 0), (3, 33)])), (false, (.invokestatic 56, [(0, 1), (0, 34)])), (false, (.invokevirtual 59, [(0, 1), (3, 23)])), (false, (.ldc 63, [(2, 2)])), (false, (.invokevirtual 65, [(0, 2), (3, 24)])), (false, (.ldc 69, [(2, 4)])), (false, (.ldc 71, [(2, 6)])), (false, (.ldc 73, [(2, 8)])), (false, (.ldc 75, [(2, 10)])), (false, (.ldc 77, [(2, 12)])), (false, (.ldc 79, [(2, 14)])), (false, (.ldc 81, [(2, 16)])), (false, (.ldc 83, [(2, 18)])), (false, (.ldc 85, [(2, 20)])), (false, (.invokevirtual 87, [(0, 0), (-1, 25)])), (false, (.invokevirtual 92, [(0, 1), (-1, 27)]))]
set_option maxRecDepth 100000 in
theorem lk_4_ok (fz : Bool) : ∀ e ∈ lk_4, ∀ nm : String, (e.1 = true → nm = "<init>") → rf_wk (cx0 fz) ocl0 tb0 sp0 str0 (stt0 fz) (nmO 4) nm e.2 := List.forall_mem_cons.mpr ⟨(fun nm _ => lq_4_0 fz nm), List.forall_mem_cons.mpr ⟨(fun nm _ => lq_4_1 fz nm), List.forall_mem_cons.mpr ⟨(fun nm hn => lq_4_2 fz nm (hn rfl)), List.forall_mem_cons.mpr ⟨(fun nm hn => lq_4_3 fz nm (hn rfl)), List.forall_mem_cons.mpr ⟨(fun nm hn => lq_4_4 fz nm (hn rfl)), List.forall_mem_cons.mpr ⟨(fun nm _ => lq_4_5 fz nm), List.forall_mem_cons.mpr ⟨(fun nm _ => lq_4_6 fz nm), List.forall_mem_cons.mpr ⟨(fun nm _ => lq_4_7 fz nm), List.forall_mem_cons.mpr ⟨(fun nm _ => lq_4_8 fz nm), List.forall_mem_cons.mpr ⟨(fun nm _ => lq_4_9 fz nm), List.forall_mem_cons.mpr ⟨(fun nm _ => lq_4_10 fz nm), List.forall_mem_cons.mpr ⟨(fun nm _ => lq_4_11 fz nm), List.forall_mem_cons.mpr ⟨(fun nm _ => lq_4_12 fz nm), List.forall_mem_cons.mpr ⟨(fun nm _ => lq_4_13 fz nm), List.forall_mem_cons.mpr ⟨(fun nm _ => lq_4_14 fz nm), List.forall_mem_cons.mpr ⟨(fun nm _ => lq_4_15 fz nm), List.forall_mem_cons.mpr ⟨(fun nm _ => lq_4_16 fz nm), List.forall_mem_cons.mpr ⟨(fun nm _ => lq_4_17 fz nm), List.forall_mem_cons.mpr ⟨(fun nm _ => lq_4_18 fz nm), List.forall_mem_cons.mpr ⟨(fun nm _ => lq_4_19 fz nm), List.forall_mem_cons.mpr ⟨(fun nm _ => lq_4_20 fz nm), List.forall_mem_cons.mpr ⟨(fun nm _ => lq_4_21 fz nm), List.forall_mem_cons.mpr ⟨(fun nm _ => lq_4_22 fz nm), List.forall_mem_cons.mpr ⟨(fun nm _ => lq_4_23 fz nm), List.forall_mem_cons.mpr ⟨(fun nm _ => lq_4_24 fz nm), List.forall_mem_cons.mpr ⟨(fun nm _ => lq_4_25 fz nm), List.forall_mem_cons.mpr ⟨(fun nm _ => lq_4_26 fz nm), List.forall_mem_cons.mpr ⟨(fun nm _ => lq_4_27 fz nm), List.forall_mem_cons.mpr ⟨(fun nm _ => lq_4_28 fz nm), List.forall_mem_cons.mpr ⟨(fun nm _ => lq_4_29 fz nm), List.forall_mem_cons.mpr ⟨(fun nm _ => lq_4_30 fz nm), List.forall_mem_cons.mpr ⟨(fun nm _ => lq_4_31 fz nm), List.forall_mem_cons.mpr ⟨(fun nm _ => lq_4_32 fz nm), List.forall_mem_cons.mpr ⟨(fun nm _ => lq_4_33 fz nm), List.forall_mem_cons.mpr ⟨(fun nm _ => lq_4_34 fz nm), List.forall_mem_cons.mpr ⟨(fun nm _ => lq_4_35 fz nm), List.forall_mem_cons.mpr ⟨(fun nm _ => lq_4_36 fz nm), fun _ h => absurd h List.not_mem_nil⟩⟩⟩⟩⟩⟩⟩⟩⟩⟩⟩⟩⟩⟩⟩⟩⟩⟩⟩⟩⟩⟩⟩⟩⟩⟩⟩⟩⟩⟩⟩⟩⟩⟩⟩⟩⟩
theorem lq_5_0 (fz : Bool) (nm : String) : rf_wk (cx0 fz) ocl0 tb0 sp0 str0 (stt0 fz) "MemoryTransactions$Store" nm (.invokespecial 3, [(0, 0), (0, 6)]) := wk_isN (host := "MemoryTransactions") (mtq_6 fz) (mo_6 fz) (tb1 169 rfl rfl) rfl (spm 252 (by decide +kernel))
theorem lq_5_1 (fz : Bool) (nm : String) : rf_wk (cx0 fz) ocl0 tb0 sp0 str0 (stt0 fz) "MemoryTransactions$Store" nm (.newarray .long, []) := wk_newa (tb1 186 rfl rfl)
theorem lq_5_2 (fz : Bool) (nm : String) (hn : nm = "<init>") : rf_wk (cx0 fz) ocl0 tb0 sp0 str0 (stt0 fz) "MemoryTransactions$Store" nm (.putfield 9, [(4, 0)]) := wk_pff (ci := 4) (r := cq_4) rfl ⟨by decide, "MemoryTransactions$Store", (tb1 187 rfl rfl), Or.inl rfl⟩ rfl hn rfl
theorem lq_5_3 (fz : Bool) (nm : String) : rf_wk (cx0 fz) ocl0 tb0 sp0 str0 (stt0 fz) "MemoryTransactions$Store" nm (.newarray .int, []) := wk_newa (tb1 106 rfl rfl)
theorem lq_5_4 (fz : Bool) (nm : String) (hn : nm = "<init>") : rf_wk (cx0 fz) ocl0 tb0 sp0 str0 (stt0 fz) "MemoryTransactions$Store" nm (.putfield 15, [(4, 1)]) := wk_pff (ci := 4) (r := cq_4) rfl ⟨by decide, "MemoryTransactions$Store", (tb1 190 rfl rfl), Or.inl rfl⟩ rfl hn rfl
theorem lq_5_5 (fz : Bool) (nm : String) : rf_wk (cx0 fz) ocl0 tb0 sp0 str0 (stt0 fz) "MemoryTransactions$Store" nm (.anewarray 19, [(0, 1)]) := wk_anew (r := cq_1) rfl (tb1 172 rfl rfl) (spm 114 (by decide +kernel))
theorem lq_5_6 (fz : Bool) (nm : String) (hn : nm = "<init>") : rf_wk (cx0 fz) ocl0 tb0 sp0 str0 (stt0 fz) "MemoryTransactions$Store" nm (.putfield 21, [(4, 3)]) := wk_pff (ci := 4) (r := cq_4) rfl ⟨by decide, "MemoryTransactions$Store", (tb1 195 rfl rfl), Or.inl rfl⟩ rfl hn rfl
theorem lq_5_7 (fz : Bool) (nm : String) (hn : nm = "<init>") : rf_wk (cx0 fz) ocl0 tb0 sp0 str0 (stt0 fz) "MemoryTransactions$Store" nm (.putfield 25, [(4, 4)]) := wk_pff (ci := 4) (r := cq_4) rfl ⟨by decide, "MemoryTransactions$Store", (tb1 196 rfl rfl), Or.inl rfl⟩ rfl hn rfl
theorem lq_5_8 (fz : Bool) (nm : String) (hn : nm = "<init>") : rf_wk (cx0 fz) ocl0 tb0 sp0 str0 (stt0 fz) "MemoryTransactions$Store" nm (.putfield 28, [(4, 5)]) := wk_pff (ci := 4) (r := cq_4) rfl ⟨by decide, "MemoryTransactions$Store", (tb1 197 rfl rfl), Or.inl rfl⟩ rfl hn rfl
theorem lq_5_9 (fz : Bool) (nm : String) : rf_wk (cx0 fz) ocl0 tb0 sp0 str0 (stt0 fz) "MemoryTransactions$Store" nm (.new 31, [(0, 5)]) := wk_new (r := cq_5) rfl (tb1 173 rfl rfl) (tb1 174 rfl rfl) (tb1 7 rfl rfl)
theorem lq_5_10 (fz : Bool) (nm : String) : rf_wk (cx0 fz) ocl0 tb0 sp0 str0 (stt0 fz) "MemoryTransactions$Store" nm (.invokespecial 33, [(0, 0), (0, 7)]) := wk_isN (host := "MemoryTransactions") (mtq_7 fz) (mo_7 fz) (tb1 176 rfl rfl) rfl (spm 259 (by decide +kernel))
theorem lq_5_11 (fz : Bool) (nm : String) (hn : nm = "<init>") : rf_wk (cx0 fz) ocl0 tb0 sp0 str0 (stt0 fz) "MemoryTransactions$Store" nm (.putfield 34, [(4, 6)]) := wk_pff (ci := 4) (r := cq_4) rfl ⟨by decide, "MemoryTransactions$Store", (tb1 198 rfl rfl), Or.inl rfl⟩ rfl hn rfl
theorem lq_5_12 (fz : Bool) (nm : String) : rf_wk (cx0 fz) ocl0 tb0 sp0 str0 (stt0 fz) "MemoryTransactions$Store" nm (.getfield 9, [(4, 0)]) := wk_gf (ci := 4) (r := cq_4) rfl ⟨by decide, "MemoryTransactions$Store", (tb1 187 rfl rfl), Or.inl rfl⟩
theorem lq_5_13 (fz : Bool) (nm : String) : rf_wk (cx0 fz) ocl0 tb0 sp0 str0 (stt0 fz) "MemoryTransactions$Store" nm (.getfield 28, [(4, 5)]) := wk_gf (ci := 4) (r := cq_4) rfl ⟨by decide, "MemoryTransactions$Store", (tb1 197 rfl rfl), Or.inl rfl⟩
theorem lq_5_14 (fz : Bool) (nm : String) : rf_wk (cx0 fz) ocl0 tb0 sp0 str0 (stt0 fz) "MemoryTransactions$Store" nm (.invokestatic 59, [(11, 0)]) := wk_11 (tb3 195 rfl rfl) (tb3 197 rfl rfl) (tb3 196 rfl rfl) (tb1 19 rfl rfl)
theorem lq_5_15 (fz : Bool) (nm : String) : rf_wk (cx0 fz) ocl0 tb0 sp0 str0 (stt0 fz) "MemoryTransactions$Store" nm (.invokestatic 55, [(0, 1), (0, 52)]) := wk_stN (host := "MemoryTransactions") (mtq_52 fz) (mo_52 fz) (tb3 152 rfl rfl) (spm 762 (by decide +kernel))
theorem lq_5_16 (fz : Bool) (nm : String) : rf_wk (cx0 fz) ocl0 tb0 sp0 str0 (stt0 fz) "MemoryTransactions$Store" nm (.invokevirtual 65, [(0, 0), (4, 62)]) := wk_iv (ci := 4) (r := cq_4) rfl (mtq_62 fz) (mo_62 fz) (tb3 201 rfl rfl) (tb3 199 rfl rfl) (tbm 24 (by decide +kernel))
theorem lq_5_17 (fz : Bool) (nm : String) : rf_wk (cx0 fz) ocl0 tb0 sp0 str0 (stt0 fz) "MemoryTransactions$Store" nm (.getfield 47, [(4, 2)]) := wk_gf (ci := 4) (r := cq_4) rfl ⟨by decide, "MemoryTransactions$Store", (tb1 193 rfl rfl), Or.inl rfl⟩
theorem lq_5_18 (fz : Bool) (nm : String) : rf_wk (cx0 fz) ocl0 tb0 sp0 str0 (stt0 fz) "MemoryTransactions$Store" nm (.getfield 21, [(4, 3)]) := wk_gf (ci := 4) (r := cq_4) rfl ⟨by decide, "MemoryTransactions$Store", (tb1 195 rfl rfl), Or.inl rfl⟩
theorem lq_5_19 (fz : Bool) (nm : String) : rf_wk (cx0 fz) ocl0 tb0 sp0 str0 (stt0 fz) "MemoryTransactions$Store" nm (.getfield 25, [(4, 4)]) := wk_gf (ci := 4) (r := cq_4) rfl ⟨by decide, "MemoryTransactions$Store", (tb1 196 rfl rfl), Or.inl rfl⟩
theorem lq_5_20 (fz : Bool) (nm : String) : rf_wk (cx0 fz) ocl0 tb0 sp0 str0 (stt0 fz) "MemoryTransactions$Store" nm (.invokevirtual 81, [(0, 2), (4, 63)]) := wk_iv (ci := 4) (r := cq_4) rfl (mtq_63 fz) (mo_63 fz) (tb3 205 rfl rfl) (tb3 203 rfl rfl) (tbm 25 (by decide +kernel))
theorem lq_5_21 (fz : Bool) (nm : String) : rf_wk (cx0 fz) ocl0 tb0 sp0 str0 (stt0 fz) "MemoryTransactions$Store" nm (.invokevirtual 89, [(0, 1), (1, 64)]) := wk_iv (ci := 1) (r := cq_1) rfl (mtq_64 fz) (mo_64 fz) (tb3 208 rfl rfl) (tb3 207 rfl rfl) (tb3 209 rfl rfl)
theorem lq_5_22 (fz : Bool) (nm : String) : rf_wk (cx0 fz) ocl0 tb0 sp0 str0 (stt0 fz) "MemoryTransactions$Store" nm (.getfield 34, [(4, 6)]) := wk_gf (ci := 4) (r := cq_4) rfl ⟨by decide, "MemoryTransactions$Store", (tb1 198 rfl rfl), Or.inl rfl⟩
theorem lq_5_23 (fz : Bool) (nm : String) : rf_wk (cx0 fz) ocl0 tb0 sp0 str0 (stt0 fz) "MemoryTransactions$Store" nm (.getfield 92, [(1, 7)]) := wk_gf (ci := 1) (r := cq_1) rfl ⟨by decide, "MemoryTransactions$Program", (tb1 56 rfl rfl), Or.inl rfl⟩
theorem lq_5_24 (fz : Bool) (nm : String) : rf_wk (cx0 fz) ocl0 tb0 sp0 str0 (stt0 fz) "MemoryTransactions$Store" nm (.invokevirtual 95, [(0, 3), (5, 65)]) := wk_iv (ci := 5) (r := cq_5) rfl (mtq_65 fz) (mo_65 fz) (tb3 212 rfl rfl) (tb3 211 rfl rfl) (tb3 213 rfl rfl)
theorem lq_5_25 (fz : Bool) (nm : String) : rf_wk (cx0 fz) ocl0 tb0 sp0 str0 (stt0 fz) "MemoryTransactions$Store" nm (.invokevirtual 99, [(0, 0), (5, 76)]) := wk_iv (ci := 5) (r := cq_5) rfl (mtq_76 fz) (mo_76 fz) (tb4 17 rfl rfl) (tb4 16 rfl rfl) (tb4 18 rfl rfl)
theorem lq_5_26 (fz : Bool) (nm : String) : rf_wk (cx0 fz) ocl0 tb0 sp0 str0 (stt0 fz) "MemoryTransactions$Store" nm (.getfield 15, [(4, 1)]) := wk_gf (ci := 4) (r := cq_4) rfl ⟨by decide, "MemoryTransactions$Store", (tb1 190 rfl rfl), Or.inl rfl⟩
theorem lq_5_27 (fz : Bool) (nm : String) : rf_wk (cx0 fz) ocl0 tb0 sp0 str0 (stt0 fz) "MemoryTransactions$Store" nm (.putfield 51, [(4, 7)]) := wk_pf (ci := 4) (r := cq_4) rfl ⟨by decide, "MemoryTransactions$Store", (tb1 200 rfl rfl), Or.inr (tb1 201 rfl rfl)⟩ rfl
theorem lq_5_28 (fz : Bool) (nm : String) : rf_wk (cx0 fz) ocl0 tb0 sp0 str0 (stt0 fz) "MemoryTransactions$Store" nm (.invokevirtual 69, [(0, 1), (8, 68)]) := wk_iv (ci := 8) (r := cq_8) rfl (mtq_68 fz) (mo_68 fz) (tb3 227 rfl rfl) (tb4 148 rfl rfl) (tb3 228 rfl rfl)
theorem lq_5_29 (fz : Bool) (nm : String) : rf_wk (cx0 fz) ocl0 tb0 sp0 str0 (stt0 fz) "MemoryTransactions$Store" nm (.getfield 74, [(8, 1)]) := wk_gf (ci := 8) (r := cq_8) rfl ⟨by decide, "MemoryTransactions$Draft", (tb2 3 rfl rfl), Or.inl rfl⟩
theorem lq_5_30 (fz : Bool) (nm : String) : rf_wk (cx0 fz) ocl0 tb0 sp0 str0 (stt0 fz) "MemoryTransactions$Store" nm (.getfield 77, [(8, 3)]) := wk_gf (ci := 8) (r := cq_8) rfl ⟨by decide, "MemoryTransactions$Draft", (tb2 8 rfl rfl), Or.inl rfl⟩
theorem lq_5_31 (fz : Bool) (nm : String) : rf_wk (cx0 fz) ocl0 tb0 sp0 str0 (stt0 fz) "MemoryTransactions$Store" nm (.getfield 78, [(8, 4)]) := wk_gf (ci := 8) (r := cq_8) rfl ⟨by decide, "MemoryTransactions$Draft", (tb2 11 rfl rfl), Or.inl rfl⟩
theorem lq_5_32 (fz : Bool) (nm : String) : rf_wk (cx0 fz) ocl0 tb0 sp0 str0 (stt0 fz) "MemoryTransactions$Store" nm (.invokevirtual 85, [(0, 2), (4, 77)]) := wk_iv (ci := 4) (r := cq_4) rfl (mtq_77 fz) (mo_77 fz) (tb4 21 rfl rfl) (tb4 149 rfl rfl) (tb4 22 rfl rfl)
theorem lq_5_33 (fz : Bool) (nm : String) : rf_wk (cx0 fz) ocl0 tb0 sp0 str0 (stt0 fz) "MemoryTransactions$Store" nm (.putfield 47, [(4, 2)]) := wk_pf (ci := 4) (r := cq_4) rfl ⟨by decide, "MemoryTransactions$Store", (tb1 193 rfl rfl), Or.inl rfl⟩ rfl
theorem lq_5_34 (fz : Bool) (nm : String) : rf_wk (cx0 fz) ocl0 tb0 sp0 str0 (stt0 fz) "MemoryTransactions$Store" nm (.invokestatic 38, [(0, 2), (0, 89)]) := wk_st (mtq_89 fz) (mo_89 fz) (tb4 71 rfl rfl) (tb4 234 rfl rfl)
theorem lq_5_35 (fz : Bool) (nm : String) : rf_wk (cx0 fz) ocl0 tb0 sp0 str0 (stt0 fz) "MemoryTransactions$Store" nm (.invokestatic 44, [(0, 2), (0, 124)]) := wk_st (mtq_124 fz) (mo_124 fz) (tb4 236 rfl rfl) (tb4 235 rfl rfl)
def lk_5 : List (Bool × rf_I) := [(false, (.invokespecial 3, [(0, 0), (0, 6)])), (false, (.newarray .long, [])), (true, (.putfield 9, [(4, 0)])), (false, (.newarray .int, [])), (true, (.putfield 15, [(4, 1)])), (false, (.anewarray 19, [(0, 1)])), (true, (.putfield 21, [(4, 3)])), (true, (.putfield 25, [(4, 4)])), (true, (.putfield 28, [(4, 5)])), (false, (.new 31, [(0, 5)])), (false, (.invokespecial 33, [(0, 0), (0, 7)])), (true, (.putfield 34, [(4, 6)])), (false, (.getfield 9, [(4, 0)])), (false, (.getfield 28, [(4, 5)])), (false, (.invokestatic 59, [(11, 0)])), (false, (.invokestatic 55, [(0, 1), (0, 52)])), (false, (.invokevirtual 65, [(0, 0), (4, 62)])), (false, (.getfield 47, [(4, 2)])), (false, (.getfield 21, [(4, 3)])), (false, (.getfield 25, [(4, 4)])), (false, (.invokevirtual 81, [(0, 2), (4, 63)])), (false, (.invokevirtual 89, [(0, 1), (1, 64)])), (false, (.getfield 34, [(4, 6)])), (false, (.getfield 92, [(1, 7)])), (false, (.invokevirtual 95, [(0, 3), (5, 65)])), (false, (.invokevirtual 99, [(0, 0), (5, 76)])), (false, (.getfield 15, [(4, 1)])), (false, (.putfield 51, [(4, 7)])), (false, (.invokevirtual 69, [(0, 1), (8, 68)])), (false, (.getfield 74, [(8, 1)])), (false, (.getfield 77, [(8, 3)])), (false, (.getfield 78, [(8, 4)])), (false, (.invokevirtual 85, [(0, 2), (4, 77)])), (false, (.putfield 47, [(4, 2)])), (false, (.invokestatic 38, [(0, 2), (0, 89)])), (false, (.invokestatic 44, [(0, 2), (0, 124)]))]
set_option maxRecDepth 100000 in
theorem lk_5_ok (fz : Bool) : ∀ e ∈ lk_5, ∀ nm : String, (e.1 = true → nm = "<init>") → rf_wk (cx0 fz) ocl0 tb0 sp0 str0 (stt0 fz) (nmO 5) nm e.2 := List.forall_mem_cons.mpr ⟨(fun nm _ => lq_5_0 fz nm), List.forall_mem_cons.mpr ⟨(fun nm _ => lq_5_1 fz nm), List.forall_mem_cons.mpr ⟨(fun nm hn => lq_5_2 fz nm (hn rfl)), List.forall_mem_cons.mpr ⟨(fun nm _ => lq_5_3 fz nm), List.forall_mem_cons.mpr ⟨(fun nm hn => lq_5_4 fz nm (hn rfl)), List.forall_mem_cons.mpr ⟨(fun nm _ => lq_5_5 fz nm), List.forall_mem_cons.mpr ⟨(fun nm hn => lq_5_6 fz nm (hn rfl)), List.forall_mem_cons.mpr ⟨(fun nm hn => lq_5_7 fz nm (hn rfl)), List.forall_mem_cons.mpr ⟨(fun nm hn => lq_5_8 fz nm (hn rfl)), List.forall_mem_cons.mpr ⟨(fun nm _ => lq_5_9 fz nm), List.forall_mem_cons.mpr ⟨(fun nm _ => lq_5_10 fz nm), List.forall_mem_cons.mpr ⟨(fun nm hn => lq_5_11 fz nm (hn rfl)), List.forall_mem_cons.mpr ⟨(fun nm _ => lq_5_12 fz nm), List.forall_mem_cons.mpr ⟨(fun nm _ => lq_5_13 fz nm), List.forall_mem_cons.mpr ⟨(fun nm _ => lq_5_14 fz nm), List.forall_mem_cons.mpr ⟨(fun nm _ => lq_5_15 fz nm), List.forall_mem_cons.mpr ⟨(fun nm _ => lq_5_16 fz nm), List.forall_mem_cons.mpr ⟨(fun nm _ => lq_5_17 fz nm), List.forall_mem_cons.mpr ⟨(fun nm _ => lq_5_18 fz nm), List.forall_mem_cons.mpr ⟨(fun nm _ => lq_5_19 fz nm), List.forall_mem_cons.mpr ⟨(fun nm _ => lq_5_20 fz nm), List.forall_mem_cons.mpr ⟨(fun nm _ => lq_5_21 fz nm), List.forall_mem_cons.mpr ⟨(fun nm _ => lq_5_22 fz nm), List.forall_mem_cons.mpr ⟨(fun nm _ => lq_5_23 fz nm), List.forall_mem_cons.mpr ⟨(fun nm _ => lq_5_24 fz nm), List.forall_mem_cons.mpr ⟨(fun nm _ => lq_5_25 fz nm), List.forall_mem_cons.mpr ⟨(fun nm _ => lq_5_26 fz nm), List.forall_mem_cons.mpr ⟨(fun nm _ => lq_5_27 fz nm), List.forall_mem_cons.mpr ⟨(fun nm _ => lq_5_28 fz nm), List.forall_mem_cons.mpr ⟨(fun nm _ => lq_5_29 fz nm), List.forall_mem_cons.mpr ⟨(fun nm _ => lq_5_30 fz nm), List.forall_mem_cons.mpr ⟨(fun nm _ => lq_5_31 fz nm), List.forall_mem_cons.mpr ⟨(fun nm _ => lq_5_32 fz nm), List.forall_mem_cons.mpr ⟨(fun nm _ => lq_5_33 fz nm), List.forall_mem_cons.mpr ⟨(fun nm _ => lq_5_34 fz nm), List.forall_mem_cons.mpr ⟨(fun nm _ => lq_5_35 fz nm), fun _ h => absurd h List.not_mem_nil⟩⟩⟩⟩⟩⟩⟩⟩⟩⟩⟩⟩⟩⟩⟩⟩⟩⟩⟩⟩⟩⟩⟩⟩⟩⟩⟩⟩⟩⟩⟩⟩⟩⟩⟩⟩
theorem lq_6_0 (fz : Bool) (nm : String) : rf_wk (cx0 fz) ocl0 tb0 sp0 str0 (stt0 fz) "MemoryTransactions$Letters" nm (.invokespecial 1, [(10, 0)]) := wk_10 (tb1 171 rfl rfl) (tb1 27 rfl rfl) (tb1 28 rfl rfl)
def lk_6 : List (Bool × rf_I) := [(false, (.invokespecial 1, [(10, 0)]))]
set_option maxRecDepth 100000 in
theorem lk_6_ok (fz : Bool) : ∀ e ∈ lk_6, ∀ nm : String, (e.1 = true → nm = "<init>") → rf_wk (cx0 fz) ocl0 tb0 sp0 str0 (stt0 fz) (nmO 6) nm e.2 := List.forall_mem_cons.mpr ⟨(fun nm _ => lq_6_0 fz nm), fun _ h => absurd h List.not_mem_nil⟩
theorem lq_7_0 (fz : Bool) (nm : String) : rf_wk (cx0 fz) ocl0 tb0 sp0 str0 (stt0 fz) "MemoryTransactions$Calculator" nm (.invokespecial 3, [(10, 0)]) := wk_10 (tb1 178 rfl rfl) (tb1 27 rfl rfl) (tb1 28 rfl rfl)
theorem lq_7_1 (fz : Bool) (nm : String) : rf_wk (cx0 fz) ocl0 tb0 sp0 str0 (stt0 fz) "MemoryTransactions$Calculator" nm (.newarray .long, []) := wk_newa (tb1 186 rfl rfl)
theorem lq_7_2 (fz : Bool) (nm : String) (hn : nm = "<init>") : rf_wk (cx0 fz) ocl0 tb0 sp0 str0 (stt0 fz) "MemoryTransactions$Calculator" nm (.putfield 9, [(5, 0)]) := wk_pff (ci := 5) (r := cq_5) rfl ⟨by decide, "MemoryTransactions$Calculator", (tb1 179 rfl rfl), Or.inl rfl⟩ rfl hn rfl
theorem lq_7_3 (fz : Bool) (nm : String) : rf_wk (cx0 fz) ocl0 tb0 sp0 str0 (stt0 fz) "MemoryTransactions$Calculator" nm (.putfield 15, [(5, 1)]) := wk_pf (ci := 5) (r := cq_5) rfl ⟨by decide, "MemoryTransactions$Calculator", (tb1 180 rfl rfl), Or.inl rfl⟩ rfl
theorem lq_7_4 (fz : Bool) (nm : String) : rf_wk (cx0 fz) ocl0 tb0 sp0 str0 (stt0 fz) "MemoryTransactions$Calculator" nm (.getfield 19, [(1, 3)]) := wk_gf (ci := 1) (r := cq_1) rfl ⟨by decide, "MemoryTransactions$Program", (tb1 44 rfl rfl), Or.inl rfl⟩
theorem lq_7_5 (fz : Bool) (nm : String) : rf_wk (cx0 fz) ocl0 tb0 sp0 str0 (stt0 fz) "MemoryTransactions$Calculator" nm (.getfield 24, [(1, 14)]) := wk_gf (ci := 1) (r := cq_1) rfl ⟨by decide, "MemoryTransactions$Program", (tb1 70 rfl rfl), Or.inl rfl⟩
theorem lq_7_6 (fz : Bool) (nm : String) : rf_wk (cx0 fz) ocl0 tb0 sp0 str0 (stt0 fz) "MemoryTransactions$Calculator" nm (.getfield 28, [(1, 15)]) := wk_gf (ci := 1) (r := cq_1) rfl ⟨by decide, "MemoryTransactions$Program", (tb1 72 rfl rfl), Or.inl rfl⟩
theorem lq_7_7 (fz : Bool) (nm : String) : rf_wk (cx0 fz) ocl0 tb0 sp0 str0 (stt0 fz) "MemoryTransactions$Calculator" nm (.invokevirtual 31, [(0, 1), (5, 66)]) := wk_iv (ci := 5) (r := cq_5) rfl (mtq_66 fz) (mo_66 fz) (tb3 217 rfl rfl) (tb3 215 rfl rfl) (tbm 26 (by decide +kernel))
theorem lq_7_8 (fz : Bool) (nm : String) : rf_wk (cx0 fz) ocl0 tb0 sp0 str0 (stt0 fz) "MemoryTransactions$Calculator" nm (.invokevirtual 35, [(0, 1), (7, 67), (4, 73)]) := wk_iva (x := ⟨"MemoryTransactions$Letters", "find", "(I)Z"⟩) (owner := "MemoryTransactions$Letters") (ci := 7) (ci2 := 4) (r := cq_7) (r2 := cq_4) (tb3 219 rfl rfl) (tb3 221 rfl rfl) ⟨by decide +kernel, by decide +kernel⟩ (spm 784 (by decide +kernel)) rfl (mtq_67 fz) (mo_67 fz) (tb3 223 rfl rfl) (tb3 222 rfl rfl) rfl rfl (mtq_73 fz) (mo_73 fz) (tb4 7 rfl rfl) (tb4 6 rfl rfl) rfl
theorem lq_7_9 (fz : Bool) (nm : String) : rf_wk (cx0 fz) ocl0 tb0 sp0 str0 (stt0 fz) "MemoryTransactions$Calculator" nm (.getfield 41, [(4, 7), (7, 10)]) := wk_gf2 (ci := 4) (ci2 := 7) (r := cq_4) (r2 := cq_7) rfl ⟨by decide, "MemoryTransactions$Letters", (tb1 199 rfl rfl), Or.inl rfl⟩ rfl ⟨by decide, "MemoryTransactions$Letters", (tb1 199 rfl rfl), Or.inl rfl⟩
theorem lq_7_10 (fz : Bool) (nm : String) : rf_wk (cx0 fz) ocl0 tb0 sp0 str0 (stt0 fz) "MemoryTransactions$Calculator" nm (.invokevirtual 45, [(0, 0), (5, 74)]) := wk_iv (ci := 5) (r := cq_5) rfl (mtq_74 fz) (mo_74 fz) (tb4 11 rfl rfl) (tb4 9 rfl rfl) (tbm 28 (by decide +kernel))
theorem lq_7_11 (fz : Bool) (nm : String) : rf_wk (cx0 fz) ocl0 tb0 sp0 str0 (stt0 fz) "MemoryTransactions$Calculator" nm (.invokestatic 49, [(0, 3), (0, 75)]) := wk_st (mtq_75 fz) (mo_75 fz) (tb4 14 rfl rfl) (tb4 13 rfl rfl)
theorem lq_7_12 (fz : Bool) (nm : String) : rf_wk (cx0 fz) ocl0 tb0 sp0 str0 (stt0 fz) "MemoryTransactions$Calculator" nm (.getfield 15, [(5, 1)]) := wk_gf (ci := 5) (r := cq_5) rfl ⟨by decide, "MemoryTransactions$Calculator", (tb1 180 rfl rfl), Or.inl rfl⟩
theorem lq_7_13 (fz : Bool) (nm : String) : rf_wk (cx0 fz) ocl0 tb0 sp0 str0 (stt0 fz) "MemoryTransactions$Calculator" nm (.getfield 9, [(5, 0)]) := wk_gf (ci := 5) (r := cq_5) rfl ⟨by decide, "MemoryTransactions$Calculator", (tb1 179 rfl rfl), Or.inl rfl⟩
def lk_7 : List (Bool × rf_I) := [(false, (.invokespecial 3, [(10, 0)])), (false, (.newarray .long, [])), (true, (.putfield 9, [(5, 0)])), (false, (.putfield 15, [(5, 1)])), (false, (.getfield 19, [(1, 3)])), (false, (.getfield 24, [(1, 14)])), (false, (.getfield 28, [(1, 15)])), (false, (.invokevirtual 31, [(0, 1), (5, 66)])), (false, (.invokevirtual 35, [(0, 1), (7, 67), (4, 73)])), (false, (.getfield 41, [(4, 7), (7, 10)])), (false, (.invokevirtual 45, [(0, 0), (5, 74)])), (false, (.invokestatic 49, [(0, 3), (0, 75)])), (false, (.getfield 15, [(5, 1)])), (false, (.getfield 9, [(5, 0)]))]
set_option maxRecDepth 100000 in
theorem lk_7_ok (fz : Bool) : ∀ e ∈ lk_7, ∀ nm : String, (e.1 = true → nm = "<init>") → rf_wk (cx0 fz) ocl0 tb0 sp0 str0 (stt0 fz) (nmO 7) nm e.2 := List.forall_mem_cons.mpr ⟨(fun nm _ => lq_7_0 fz nm), List.forall_mem_cons.mpr ⟨(fun nm _ => lq_7_1 fz nm), List.forall_mem_cons.mpr ⟨(fun nm hn => lq_7_2 fz nm (hn rfl)), List.forall_mem_cons.mpr ⟨(fun nm _ => lq_7_3 fz nm), List.forall_mem_cons.mpr ⟨(fun nm _ => lq_7_4 fz nm), List.forall_mem_cons.mpr ⟨(fun nm _ => lq_7_5 fz nm), List.forall_mem_cons.mpr ⟨(fun nm _ => lq_7_6 fz nm), List.forall_mem_cons.mpr ⟨(fun nm _ => lq_7_7 fz nm), List.forall_mem_cons.mpr ⟨(fun nm _ => lq_7_8 fz nm), List.forall_mem_cons.mpr ⟨(fun nm _ => lq_7_9 fz nm), List.forall_mem_cons.mpr ⟨(fun nm _ => lq_7_10 fz nm), List.forall_mem_cons.mpr ⟨(fun nm _ => lq_7_11 fz nm), List.forall_mem_cons.mpr ⟨(fun nm _ => lq_7_12 fz nm), List.forall_mem_cons.mpr ⟨(fun nm _ => lq_7_13 fz nm), fun _ h => absurd h List.not_mem_nil⟩⟩⟩⟩⟩⟩⟩⟩⟩⟩⟩⟩⟩⟩
theorem lq_8_0 (fz : Bool) (nm : String) : rf_wk (cx0 fz) ocl0 tb0 sp0 str0 (stt0 fz) "MemoryTransactions$Client" nm (.invokespecial 3, [(10, 0)]) := wk_10 (tb1 227 rfl rfl) (tb1 27 rfl rfl) (tb1 28 rfl rfl)
theorem lq_8_1 (fz : Bool) (nm : String) : rf_wk (cx0 fz) ocl0 tb0 sp0 str0 (stt0 fz) "MemoryTransactions$Client" nm (.newarray .int, []) := wk_newa (tb1 106 rfl rfl)
theorem lq_8_2 (fz : Bool) (nm : String) (hn : nm = "<init>") : rf_wk (cx0 fz) ocl0 tb0 sp0 str0 (stt0 fz) "MemoryTransactions$Client" nm (.putfield 9, [(6, 3)]) := wk_pff (ci := 6) (r := cq_6) rfl ⟨by decide, "MemoryTransactions$Client", (tb2 88 rfl rfl), Or.inl rfl⟩ rfl hn rfl
theorem lq_8_3 (fz : Bool) (nm : String) (hn : nm = "<init>") : rf_wk (cx0 fz) ocl0 tb0 sp0 str0 (stt0 fz) "MemoryTransactions$Client" nm (.putfield 15, [(6, 7)]) := wk_pff (ci := 6) (r := cq_6) rfl ⟨by decide, "MemoryTransactions$Client", (tb2 94 rfl rfl), Or.inl rfl⟩ rfl hn rfl
theorem lq_8_4 (fz : Bool) (nm : String) : rf_wk (cx0 fz) ocl0 tb0 sp0 str0 (stt0 fz) "MemoryTransactions$Client" nm (.new 18, [(0, 7)]) := wk_new (r := cq_7) rfl (tb1 228 rfl rfl) (tb1 229 rfl rfl) (tb1 9 rfl rfl)
theorem lq_8_5 (fz : Bool) (nm : String) : rf_wk (cx0 fz) ocl0 tb0 sp0 str0 (stt0 fz) "MemoryTransactions$Client" nm (.invokespecial 20, [(0, 2), (0, 9)]) := wk_is (mtq_9 fz) (mo_9 fz) (tb1 231 rfl rfl) rfl (tb1 230 rfl rfl)
theorem lq_8_6 (fz : Bool) (nm : String) (hn : nm = "<init>") : rf_wk (cx0 fz) ocl0 tb0 sp0 str0 (stt0 fz) "MemoryTransactions$Client" nm (.putfield 23, [(6, 4)]) := wk_pff (ci := 6) (r := cq_6) rfl ⟨by decide, "MemoryTransactions$Client", (tb2 90 rfl rfl), Or.inl rfl⟩ rfl hn rfl
theorem lq_8_7 (fz : Bool) (nm : String) : rf_wk (cx0 fz) ocl0 tb0 sp0 str0 (stt0 fz) "MemoryTransactions$Client" nm (.getfield 31, [(6, 5)]) := wk_gf (ci := 6) (r := cq_6) rfl ⟨by decide, "MemoryTransactions$Client", (tb2 92 rfl rfl), Or.inl rfl⟩
theorem lq_8_8 (fz : Bool) (nm : String) : rf_wk (cx0 fz) ocl0 tb0 sp0 str0 (stt0 fz) "MemoryTransactions$Client" nm (.getfield 9, [(6, 3)]) := wk_gf (ci := 6) (r := cq_6) rfl ⟨by decide, "MemoryTransactions$Client", (tb2 88 rfl rfl), Or.inl rfl⟩
theorem lq_8_9 (fz : Bool) (nm : String) : rf_wk (cx0 fz) ocl0 tb0 sp0 str0 (stt0 fz) "MemoryTransactions$Client" nm (.putfield 31, [(6, 5)]) := wk_pf (ci := 6) (r := cq_6) rfl ⟨by decide, "MemoryTransactions$Client", (tb2 92 rfl rfl), Or.inl rfl⟩ rfl
theorem lq_8_10 (fz : Bool) (nm : String) : rf_wk (cx0 fz) ocl0 tb0 sp0 str0 (stt0 fz) "MemoryTransactions$Client" nm (.getfield 27, [(6, 0)]) := wk_gf (ci := 6) (r := cq_6) rfl ⟨by decide, "MemoryTransactions$Client", (tb2 82 rfl rfl), Or.inl rfl⟩
theorem lq_8_11 (fz : Bool) (nm : String) : rf_wk (cx0 fz) ocl0 tb0 sp0 str0 (stt0 fz) "MemoryTransactions$Client" nm (.putfield 27, [(6, 0)]) := wk_pf (ci := 6) (r := cq_6) rfl ⟨by decide, "MemoryTransactions$Client", (tb2 82 rfl rfl), Or.inl rfl⟩ rfl
theorem lq_8_12 (fz : Bool) (nm : String) : rf_wk (cx0 fz) ocl0 tb0 sp0 str0 (stt0 fz) "MemoryTransactions$Client" nm (.getfield 37, [(6, 6)]) := wk_gf (ci := 6) (r := cq_6) rfl ⟨by decide, "MemoryTransactions$Client", (tb2 93 rfl rfl), Or.inl rfl⟩
theorem lq_8_13 (fz : Bool) (nm : String) : rf_wk (cx0 fz) ocl0 tb0 sp0 str0 (stt0 fz) "MemoryTransactions$Client" nm (.getfield 15, [(6, 7)]) := wk_gf (ci := 6) (r := cq_6) rfl ⟨by decide, "MemoryTransactions$Client", (tb2 94 rfl rfl), Or.inl rfl⟩
theorem lq_8_14 (fz : Bool) (nm : String) : rf_wk (cx0 fz) ocl0 tb0 sp0 str0 (stt0 fz) "MemoryTransactions$Client" nm (.invokevirtual 40, [(0, 2), (4, 72)]) := wk_iv (ci := 4) (r := cq_4) rfl (mtq_72 fz) (mo_72 fz) (tb4 3 rfl rfl) (tb4 61 rfl rfl) (tb4 4 rfl rfl)
theorem lq_8_15 (fz : Bool) (nm : String) : rf_wk (cx0 fz) ocl0 tb0 sp0 str0 (stt0 fz) "MemoryTransactions$Client" nm (.getfield 46, [(6, 1)]) := wk_gf (ci := 6) (r := cq_6) rfl ⟨by decide, "MemoryTransactions$Client", (tb2 84 rfl rfl), Or.inl rfl⟩
theorem lq_8_16 (fz : Bool) (nm : String) : rf_wk (cx0 fz) ocl0 tb0 sp0 str0 (stt0 fz) "MemoryTransactions$Client" nm (.putfield 46, [(6, 1)]) := wk_pf (ci := 6) (r := cq_6) rfl ⟨by decide, "MemoryTransactions$Client", (tb2 84 rfl rfl), Or.inl rfl⟩ rfl
theorem lq_8_17 (fz : Bool) (nm : String) : rf_wk (cx0 fz) ocl0 tb0 sp0 str0 (stt0 fz) "MemoryTransactions$Client" nm (.putfield 49, [(6, 2)]) := wk_pf (ci := 6) (r := cq_6) rfl ⟨by decide, "MemoryTransactions$Client", (tb2 86 rfl rfl), Or.inl rfl⟩ rfl
theorem lq_8_18 (fz : Bool) (nm : String) : rf_wk (cx0 fz) ocl0 tb0 sp0 str0 (stt0 fz) "MemoryTransactions$Client" nm (.getfield 23, [(6, 4)]) := wk_gf (ci := 6) (r := cq_6) rfl ⟨by decide, "MemoryTransactions$Client", (tb2 90 rfl rfl), Or.inl rfl⟩
theorem lq_8_19 (fz : Bool) (nm : String) : rf_wk (cx0 fz) ocl0 tb0 sp0 str0 (stt0 fz) "MemoryTransactions$Client" nm (.getfield 53, [(7, 2)]) := wk_gf (ci := 7) (r := cq_7) rfl ⟨by decide, "MemoryTransactions$Run", (tb2 45 rfl rfl), Or.inl rfl⟩
theorem lq_8_20 (fz : Bool) (nm : String) : rf_wk (cx0 fz) ocl0 tb0 sp0 str0 (stt0 fz) "MemoryTransactions$Client" nm (.putfield 37, [(6, 6)]) := wk_pf (ci := 6) (r := cq_6) rfl ⟨by decide, "MemoryTransactions$Client", (tb2 93 rfl rfl), Or.inl rfl⟩ rfl
theorem lq_8_21 (fz : Bool) (nm : String) : rf_wk (cx0 fz) ocl0 tb0 sp0 str0 (stt0 fz) "MemoryTransactions$Client" nm (.getfield 56, [(7, 4)]) := wk_gf (ci := 7) (r := cq_7) rfl ⟨by decide, "MemoryTransactions$Run", (tb2 51 rfl rfl), Or.inl rfl⟩
theorem lq_8_22 (fz : Bool) (nm : String) : rf_wk (cx0 fz) ocl0 tb0 sp0 str0 (stt0 fz) "MemoryTransactions$Client" nm (.invokestatic 59, [(11, 0)]) := wk_11 (tb4 135 rfl rfl) (tb3 197 rfl rfl) (tb3 196 rfl rfl) (tb1 19 rfl rfl)
theorem lq_8_23 (fz : Bool) (nm : String) : rf_wk (cx0 fz) ocl0 tb0 sp0 str0 (stt0 fz) "MemoryTransactions$Client" nm (.invokevirtual 34, [(0, 0), (6, 107)]) := wk_iv (ci := 6) (r := cq_6) rfl (mtq_107 fz) (mo_107 fz) (tb4 157 rfl rfl) (tb4 155 rfl rfl) (tbm 36 (by decide +kernel))
theorem lq_8_24 (fz : Bool) (nm : String) : rf_wk (cx0 fz) ocl0 tb0 sp0 str0 (stt0 fz) "MemoryTransactions$Client" nm (.getfield 65, [(7, 1)]) := wk_gf (ci := 7) (r := cq_7) rfl ⟨by decide, "MemoryTransactions$Run", (tb2 42 rfl rfl), Or.inl rfl⟩
theorem lq_8_25 (fz : Bool) (nm : String) : rf_wk (cx0 fz) ocl0 tb0 sp0 str0 (stt0 fz) "MemoryTransactions$Client" nm (.getfield 68, [(7, 5)]) := wk_gf (ci := 7) (r := cq_7) rfl ⟨by decide, "MemoryTransactions$Run", (tb2 54 rfl rfl), Or.inl rfl⟩
theorem lq_8_26 (fz : Bool) (nm : String) : rf_wk (cx0 fz) ocl0 tb0 sp0 str0 (stt0 fz) "MemoryTransactions$Client" nm (.getfield 72, [(8, 0)]) := wk_gf (ci := 8) (r := cq_8) rfl ⟨by decide, "MemoryTransactions$Draft", (tb2 1 rfl rfl), Or.inl rfl⟩
theorem lq_8_27 (fz : Bool) (nm : String) : rf_wk (cx0 fz) ocl0 tb0 sp0 str0 (stt0 fz) "MemoryTransactions$Client" nm (.getfield 49, [(6, 2)]) := wk_gf (ci := 6) (r := cq_6) rfl ⟨by decide, "MemoryTransactions$Client", (tb2 86 rfl rfl), Or.inl rfl⟩
theorem lq_8_28 (fz : Bool) (nm : String) : rf_wk (cx0 fz) ocl0 tb0 sp0 str0 (stt0 fz) "MemoryTransactions$Client" nm (.getfield 77, [(8, 3)]) := wk_gf (ci := 8) (r := cq_8) rfl ⟨by decide, "MemoryTransactions$Draft", (tb2 9 rfl rfl), Or.inl rfl⟩
def lk_8 : List (Bool × rf_I) := [(false, (.invokespecial 3, [(10, 0)])), (false, (.newarray .int, [])), (true, (.putfield 9, [(6, 3)])), (true, (.putfield 15, [(6, 7)])), (false, (.new 18, [(0, 7)])), (false, (.invokespecial 20, [(0, 2), (0, 9)])), (true, (.putfield 23, [(6, 4)])), (false, (.getfield 31, [(6, 5)])), (false, (.getfield 9, [(6, 3)])), (false, (.putfield 31, [(6, 5)])), (false, (.getfield 27, [(6, 0)])), (false, (.putfield 27, [(6, 0)])), (false, (.getfield 37, [(6, 6)])), (false, (.getfield 15, [(6, 7)])), (false, (.invokevirtual 40, [(0, 2), (4, 72)])), (false, (.getfield 46, [(6, 1)])), (false, (.putfield 46, [(6, 1)])), (false, (.putfield 49, [(6, 2)])), (false, (.getfield 23, [(6, 4)])), (false, (.getfield 53, [(7, 2)])), (false, (.putfield 37, [(6, 6)])), (false, (.getfield 56, [(7, 4)])), (false, (.invokestatic 59, [(11, 0)])), (false, (.invokevirtual 34, [(0, 0), (6, 107)])), (false, (.getfield 65, [(7, 1)])), (false, (.getfield 68, [(7, 5)])), (false, (.getfield 72, [(8, 0)])), (false, (.getfield 49, [(6, 2)])), (false, (.getfield 77, [(8, 3)]))]
set_option maxRecDepth 100000 in
theorem lk_8_ok (fz : Bool) : ∀ e ∈ lk_8, ∀ nm : String, (e.1 = true → nm = "<init>") → rf_wk (cx0 fz) ocl0 tb0 sp0 str0 (stt0 fz) (nmO 8) nm e.2 := List.forall_mem_cons.mpr ⟨(fun nm _ => lq_8_0 fz nm), List.forall_mem_cons.mpr ⟨(fun nm _ => lq_8_1 fz nm), List.forall_mem_cons.mpr ⟨(fun nm hn => lq_8_2 fz nm (hn rfl)), List.forall_mem_cons.mpr ⟨(fun nm hn => lq_8_3 fz nm (hn rfl)), List.forall_mem_cons.mpr ⟨(fun nm _ => lq_8_4 fz nm), List.forall_mem_cons.mpr ⟨(fun nm _ => lq_8_5 fz nm), List.forall_mem_cons.mpr ⟨(fun nm hn => lq_8_6 fz nm (hn rfl)), List.forall_mem_cons.mpr ⟨(fun nm _ => lq_8_7 fz nm), List.forall_mem_cons.mpr ⟨(fun nm _ => lq_8_8 fz nm), List.forall_mem_cons.mpr ⟨(fun nm _ => lq_8_9 fz nm), List.forall_mem_cons.mpr ⟨(fun nm _ => lq_8_10 fz nm), List.forall_mem_cons.mpr ⟨(fun nm _ => lq_8_11 fz nm), List.forall_mem_cons.mpr ⟨(fun nm _ => lq_8_12 fz nm), List.forall_mem_cons.mpr ⟨(fun nm _ => lq_8_13 fz nm), List.forall_mem_cons.mpr ⟨(fun nm _ => lq_8_14 fz nm), List.forall_mem_cons.mpr ⟨(fun nm _ => lq_8_15 fz nm), List.forall_mem_cons.mpr ⟨(fun nm _ => lq_8_16 fz nm), List.forall_mem_cons.mpr ⟨(fun nm _ => lq_8_17 fz nm), List.forall_mem_cons.mpr ⟨(fun nm _ => lq_8_18 fz nm), List.forall_mem_cons.mpr ⟨(fun nm _ => lq_8_19 fz nm), List.forall_mem_cons.mpr ⟨(fun nm _ => lq_8_20 fz nm), List.forall_mem_cons.mpr ⟨(fun nm _ => lq_8_21 fz nm), List.forall_mem_cons.mpr ⟨(fun nm _ => lq_8_22 fz nm), List.forall_mem_cons.mpr ⟨(fun nm _ => lq_8_23 fz nm), List.forall_mem_cons.mpr ⟨(fun nm _ => lq_8_24 fz nm), List.forall_mem_cons.mpr ⟨(fun nm _ => lq_8_25 fz nm), List.forall_mem_cons.mpr ⟨(fun nm _ => lq_8_26 fz nm), List.forall_mem_cons.mpr ⟨(fun nm _ => lq_8_27 fz nm), List.forall_mem_cons.mpr ⟨(fun nm _ => lq_8_28 fz nm), fun _ h => absurd h List.not_mem_nil⟩⟩⟩⟩⟩⟩⟩⟩⟩⟩⟩⟩⟩⟩⟩⟩⟩⟩⟩⟩⟩⟩⟩⟩⟩⟩⟩⟩⟩
theorem lq_9_0 (fz : Bool) (nm : String) : rf_wk (cx0 fz) ocl0 tb0 sp0 str0 (stt0 fz) "MemoryTransactions$Run" nm (.invokespecial 3, [(0, 0), (0, 6)]) := wk_isN (host := "MemoryTransactions") (mtq_6 fz) (mo_6 fz) (tb1 169 rfl rfl) rfl (spm 317 (by decide +kernel))
theorem lq_9_1 (fz : Bool) (nm : String) : rf_wk (cx0 fz) ocl0 tb0 sp0 str0 (stt0 fz) "MemoryTransactions$Run" nm (.newarray .int, []) := wk_newa (tb1 106 rfl rfl)
theorem lq_9_2 (fz : Bool) (nm : String) (hn : nm = "<init>") : rf_wk (cx0 fz) ocl0 tb0 sp0 str0 (stt0 fz) "MemoryTransactions$Run" nm (.putfield 9, [(7, 4)]) := wk_pff (ci := 7) (r := cq_7) rfl ⟨by decide, "MemoryTransactions$Run", (tb2 50 rfl rfl), Or.inl rfl⟩ rfl hn rfl
theorem lq_9_3 (fz : Bool) (nm : String) : rf_wk (cx0 fz) ocl0 tb0 sp0 str0 (stt0 fz) "MemoryTransactions$Run" nm (.new 15, [(0, 8)]) := wk_new (r := cq_8) rfl (tb1 234 rfl rfl) (tb1 235 rfl rfl) (tb1 10 rfl rfl)
theorem lq_9_4 (fz : Bool) (nm : String) : rf_wk (cx0 fz) ocl0 tb0 sp0 str0 (stt0 fz) "MemoryTransactions$Run" nm (.invokespecial 17, [(0, 0), (0, 10)]) := wk_isN (host := "MemoryTransactions") (mtq_10 fz) (mo_10 fz) (tb1 237 rfl rfl) rfl (spm 320 (by decide +kernel))
theorem lq_9_5 (fz : Bool) (nm : String) (hn : nm = "<init>") : rf_wk (cx0 fz) ocl0 tb0 sp0 str0 (stt0 fz) "MemoryTransactions$Run" nm (.putfield 18, [(7, 5)]) := wk_pff (ci := 7) (r := cq_7) rfl ⟨by decide, "MemoryTransactions$Run", (tb2 52 rfl rfl), Or.inl rfl⟩ rfl hn rfl
theorem lq_9_6 (fz : Bool) (nm : String) : rf_wk (cx0 fz) ocl0 tb0 sp0 str0 (stt0 fz) "MemoryTransactions$Run" nm (.newarray .long, []) := wk_newa (tb1 186 rfl rfl)
theorem lq_9_7 (fz : Bool) (nm : String) (hn : nm = "<init>") : rf_wk (cx0 fz) ocl0 tb0 sp0 str0 (stt0 fz) "MemoryTransactions$Run" nm (.putfield 22, [(7, 7)]) := wk_pff (ci := 7) (r := cq_7) rfl ⟨by decide, "MemoryTransactions$Run", (tb2 57 rfl rfl), Or.inl rfl⟩ rfl hn rfl
theorem lq_9_8 (fz : Bool) (nm : String) : rf_wk (cx0 fz) ocl0 tb0 sp0 str0 (stt0 fz) "MemoryTransactions$Run" nm (.new 26, [(0, 5)]) := wk_new (r := cq_5) rfl (tb2 35 rfl rfl) (tb1 174 rfl rfl) (tb1 7 rfl rfl)
theorem lq_9_9 (fz : Bool) (nm : String) : rf_wk (cx0 fz) ocl0 tb0 sp0 str0 (stt0 fz) "MemoryTransactions$Run" nm (.invokespecial 28, [(0, 0), (0, 7)]) := wk_isN (host := "MemoryTransactions") (mtq_7 fz) (mo_7 fz) (tb1 176 rfl rfl) rfl (spm 360 (by decide +kernel))
theorem lq_9_10 (fz : Bool) (nm : String) (hn : nm = "<init>") : rf_wk (cx0 fz) ocl0 tb0 sp0 str0 (stt0 fz) "MemoryTransactions$Run" nm (.putfield 29, [(7, 9)]) := wk_pff (ci := 7) (r := cq_7) rfl ⟨by decide, "MemoryTransactions$Run", (tb2 59 rfl rfl), Or.inl rfl⟩ rfl hn rfl
theorem lq_9_11 (fz : Bool) (nm : String) (hn : nm = "<init>") : rf_wk (cx0 fz) ocl0 tb0 sp0 str0 (stt0 fz) "MemoryTransactions$Run" nm (.putfield 33, [(7, 8)]) := wk_pff (ci := 7) (r := cq_7) rfl ⟨by decide, "MemoryTransactions$Run", (tb2 58 rfl rfl), Or.inl rfl⟩ rfl hn rfl
theorem lq_9_12 (fz : Bool) (nm : String) : rf_wk (cx0 fz) ocl0 tb0 sp0 str0 (stt0 fz) "MemoryTransactions$Run" nm (.putfield 37, [(7, 0)]) := wk_pf (ci := 7) (r := cq_7) rfl ⟨by decide, "MemoryTransactions$Run", (tb2 37 rfl rfl), Or.inl rfl⟩ rfl
theorem lq_9_13 (fz : Bool) (nm : String) : rf_wk (cx0 fz) ocl0 tb0 sp0 str0 (stt0 fz) "MemoryTransactions$Run" nm (.invokestatic 139, [(0, 1), (0, 52)]) := wk_stN (host := "MemoryTransactions") (mtq_52 fz) (mo_52 fz) (tb3 152 rfl rfl) (spm 789 (by decide +kernel))
theorem lq_9_14 (fz : Bool) (nm : String) : rf_wk (cx0 fz) ocl0 tb0 sp0 str0 (stt0 fz) "MemoryTransactions$Run" nm (.getfield 18, [(7, 5)]) := wk_gf (ci := 7) (r := cq_7) rfl ⟨by decide, "MemoryTransactions$Run", (tb2 52 rfl rfl), Or.inl rfl⟩
theorem lq_9_15 (fz : Bool) (nm : String) : rf_wk (cx0 fz) ocl0 tb0 sp0 str0 (stt0 fz) "MemoryTransactions$Run" nm (.invokevirtual 142, [(0, 1), (8, 68)]) := wk_iv (ci := 8) (r := cq_8) rfl (mtq_68 fz) (mo_68 fz) (tb3 227 rfl rfl) (tb3 226 rfl rfl) (tb3 228 rfl rfl)
theorem lq_9_16 (fz : Bool) (nm : String) : rf_wk (cx0 fz) ocl0 tb0 sp0 str0 (stt0 fz) "MemoryTransactions$Run" nm (.invokevirtual 145, [(0, 1), (7, 69)]) := wk_iv (ci := 7) (r := cq_7) rfl (mtq_69 fz) (mo_69 fz) (tb3 232 rfl rfl) (tb3 230 rfl rfl) (tbm 27 (by decide +kernel))
theorem lq_9_17 (fz : Bool) (nm : String) : rf_wk (cx0 fz) ocl0 tb0 sp0 str0 (stt0 fz) "MemoryTransactions$Run" nm (.invokevirtual 148, [(0, 1), (7, 70)]) := wk_iv (ci := 7) (r := cq_7) rfl (mtq_70 fz) (mo_70 fz) (tb3 235 rfl rfl) (tb3 234 rfl rfl) (tb3 236 rfl rfl)
theorem lq_9_18 (fz : Bool) (nm : String) : rf_wk (cx0 fz) ocl0 tb0 sp0 str0 (stt0 fz) "MemoryTransactions$Run" nm (.putfield 152, [(7, 10)]) := wk_pf (ci := 7) (r := cq_7) rfl ⟨by decide, "MemoryTransactions$Run", (tb1 202 rfl rfl), Or.inr (tb1 203 rfl rfl)⟩ rfl
theorem lq_9_19 (fz : Bool) (nm : String) : rf_wk (cx0 fz) ocl0 tb0 sp0 str0 (stt0 fz) "MemoryTransactions$Run" nm (.invokevirtual 155, [(0, 0), (7, 71)]) := wk_iv (ci := 7) (r := cq_7) rfl (mtq_71 fz) (mo_71 fz) (tb3 239 rfl rfl) (tb3 238 rfl rfl) (tb4 0 rfl rfl)
theorem lq_9_20 (fz : Bool) (nm : String) : rf_wk (cx0 fz) ocl0 tb0 sp0 str0 (stt0 fz) "MemoryTransactions$Run" nm (.getfield 53, [(7, 2)]) := wk_gf (ci := 7) (r := cq_7) rfl ⟨by decide, "MemoryTransactions$Run", (tb2 44 rfl rfl), Or.inl rfl⟩
theorem lq_9_21 (fz : Bool) (nm : String) : rf_wk (cx0 fz) ocl0 tb0 sp0 str0 (stt0 fz) "MemoryTransactions$Run" nm (.putfield 53, [(7, 2)]) := wk_pf (ci := 7) (r := cq_7) rfl ⟨by decide, "MemoryTransactions$Run", (tb2 44 rfl rfl), Or.inl rfl⟩ rfl
theorem lq_9_22 (fz : Bool) (nm : String) : rf_wk (cx0 fz) ocl0 tb0 sp0 str0 (stt0 fz) "MemoryTransactions$Run" nm (.getfield 22, [(7, 7)]) := wk_gf (ci := 7) (r := cq_7) rfl ⟨by decide, "MemoryTransactions$Run", (tb2 57 rfl rfl), Or.inl rfl⟩
theorem lq_9_23 (fz : Bool) (nm : String) : rf_wk (cx0 fz) ocl0 tb0 sp0 str0 (stt0 fz) "MemoryTransactions$Run" nm (.getfield 33, [(7, 8)]) := wk_gf (ci := 7) (r := cq_7) rfl ⟨by decide, "MemoryTransactions$Run", (tb2 58 rfl rfl), Or.inl rfl⟩
theorem lq_9_24 (fz : Bool) (nm : String) : rf_wk (cx0 fz) ocl0 tb0 sp0 str0 (stt0 fz) "MemoryTransactions$Run" nm (.getfield 159, [(4, 0)]) := wk_gf (ci := 4) (r := cq_4) rfl ⟨by decide, "MemoryTransactions$Store", (tb1 189 rfl rfl), Or.inl rfl⟩
theorem lq_9_25 (fz : Bool) (nm : String) : rf_wk (cx0 fz) ocl0 tb0 sp0 str0 (stt0 fz) "MemoryTransactions$Run" nm (.getfield 9, [(7, 4)]) := wk_gf (ci := 7) (r := cq_7) rfl ⟨by decide, "MemoryTransactions$Run", (tb2 50 rfl rfl), Or.inl rfl⟩
theorem lq_9_26 (fz : Bool) (nm : String) : rf_wk (cx0 fz) ocl0 tb0 sp0 str0 (stt0 fz) "MemoryTransactions$Run" nm (.getfield 162, [(4, 1)]) := wk_gf (ci := 4) (r := cq_4) rfl ⟨by decide, "MemoryTransactions$Store", (tb1 192 rfl rfl), Or.inl rfl⟩
theorem lq_9_27 (fz : Bool) (nm : String) : rf_wk (cx0 fz) ocl0 tb0 sp0 str0 (stt0 fz) "MemoryTransactions$Run" nm (.getfield 165, [(8, 2)]) := wk_gf (ci := 8) (r := cq_8) rfl ⟨by decide, "MemoryTransactions$Draft", (tb2 6 rfl rfl), Or.inl rfl⟩
theorem lq_9_28 (fz : Bool) (nm : String) : rf_wk (cx0 fz) ocl0 tb0 sp0 str0 (stt0 fz) "MemoryTransactions$Run" nm (.getfield 168, [(8, 1)]) := wk_gf (ci := 8) (r := cq_8) rfl ⟨by decide, "MemoryTransactions$Draft", (tb2 4 rfl rfl), Or.inl rfl⟩
theorem lq_9_29 (fz : Bool) (nm : String) : rf_wk (cx0 fz) ocl0 tb0 sp0 str0 (stt0 fz) "MemoryTransactions$Run" nm (.invokevirtual 133, [(0, 2), (4, 72)]) := wk_iv (ci := 4) (r := cq_4) rfl (mtq_72 fz) (mo_72 fz) (tb4 3 rfl rfl) (tb4 2 rfl rfl) (tb4 4 rfl rfl)
theorem lq_9_30 (fz : Bool) (nm : String) : rf_wk (cx0 fz) ocl0 tb0 sp0 str0 (stt0 fz) "MemoryTransactions$Run" nm (.getfield 41, [(1, 4)]) := wk_gf (ci := 1) (r := cq_1) rfl ⟨by decide, "MemoryTransactions$Program", (tb1 46 rfl rfl), Or.inl rfl⟩
theorem lq_9_31 (fz : Bool) (nm : String) : rf_wk (cx0 fz) ocl0 tb0 sp0 str0 (stt0 fz) "MemoryTransactions$Run" nm (.putfield 47, [(7, 6)]) := wk_pf (ci := 7) (r := cq_7) rfl ⟨by decide, "MemoryTransactions$Run", (tb2 56 rfl rfl), Or.inl rfl⟩ rfl
theorem lq_9_32 (fz : Bool) (nm : String) : rf_wk (cx0 fz) ocl0 tb0 sp0 str0 (stt0 fz) "MemoryTransactions$Run" nm (.putfield 50, [(7, 1)]) := wk_pf (ci := 7) (r := cq_7) rfl ⟨by decide, "MemoryTransactions$Run", (tb2 40 rfl rfl), Or.inl rfl⟩ rfl
theorem lq_9_33 (fz : Bool) (nm : String) : rf_wk (cx0 fz) ocl0 tb0 sp0 str0 (stt0 fz) "MemoryTransactions$Run" nm (.putfield 56, [(7, 3)]) := wk_pf (ci := 7) (r := cq_7) rfl ⟨by decide, "MemoryTransactions$Run", (tb2 47 rfl rfl), Or.inl rfl⟩ rfl
theorem lq_9_34 (fz : Bool) (nm : String) : rf_wk (cx0 fz) ocl0 tb0 sp0 str0 (stt0 fz) "MemoryTransactions$Run" nm (.invokevirtual 60, [(0, 0), (8, 88)]) := wk_iv (ci := 8) (r := cq_8) rfl (mtq_88 fz) (mo_88 fz) (tb4 67 rfl rfl) (tb4 66 rfl rfl) (tb4 68 rfl rfl)
theorem lq_9_35 (fz : Bool) (nm : String) : rf_wk (cx0 fz) ocl0 tb0 sp0 str0 (stt0 fz) "MemoryTransactions$Run" nm (.getfield 50, [(7, 1)]) := wk_gf (ci := 7) (r := cq_7) rfl ⟨by decide, "MemoryTransactions$Run", (tb2 40 rfl rfl), Or.inl rfl⟩
theorem lq_9_36 (fz : Bool) (nm : String) : rf_wk (cx0 fz) ocl0 tb0 sp0 str0 (stt0 fz) "MemoryTransactions$Run" nm (.ldc2_w 63, [(1, 18446744073709551613)]) := wk_l2 (tb4 77 rfl rfl)
theorem lq_9_37 (fz : Bool) (nm : String) : rf_wk (cx0 fz) ocl0 tb0 sp0 str0 (stt0 fz) "MemoryTransactions$Run" nm (.getfield 37, [(7, 0)]) := wk_gf (ci := 7) (r := cq_7) rfl ⟨by decide, "MemoryTransactions$Run", (tb2 37 rfl rfl), Or.inl rfl⟩
theorem lq_9_38 (fz : Bool) (nm : String) : rf_wk (cx0 fz) ocl0 tb0 sp0 str0 (stt0 fz) "MemoryTransactions$Run" nm (.getfield 47, [(7, 6)]) := wk_gf (ci := 7) (r := cq_7) rfl ⟨by decide, "MemoryTransactions$Run", (tb2 56 rfl rfl), Or.inl rfl⟩
theorem lq_9_39 (fz : Bool) (nm : String) : rf_wk (cx0 fz) ocl0 tb0 sp0 str0 (stt0 fz) "MemoryTransactions$Run" nm (.invokevirtual 65, [(0, 1), (1, 64)]) := wk_iv (ci := 1) (r := cq_1) rfl (mtq_64 fz) (mo_64 fz) (tb3 208 rfl rfl) (tb4 78 rfl rfl) (tb3 209 rfl rfl)
theorem lq_9_40 (fz : Bool) (nm : String) : rf_wk (cx0 fz) ocl0 tb0 sp0 str0 (stt0 fz) "MemoryTransactions$Run" nm (.getfield 69, [(1, 5)]) := wk_gf (ci := 1) (r := cq_1) rfl ⟨by decide, "MemoryTransactions$Program", (tb1 50 rfl rfl), Or.inl rfl⟩
theorem lq_9_41 (fz : Bool) (nm : String) : rf_wk (cx0 fz) ocl0 tb0 sp0 str0 (stt0 fz) "MemoryTransactions$Run" nm (.getfield 72, [(1, 10)]) := wk_gf (ci := 1) (r := cq_1) rfl ⟨by decide, "MemoryTransactions$Program", (tb1 60 rfl rfl), Or.inl rfl⟩
theorem lq_9_42 (fz : Bool) (nm : String) : rf_wk (cx0 fz) ocl0 tb0 sp0 str0 (stt0 fz) "MemoryTransactions$Run" nm (.invokevirtual 75, [(0, 1), (8, 91)]) := wk_iv (ci := 8) (r := cq_8) rfl (mtq_91 fz) (mo_91 fz) (tb4 80 rfl rfl) (tb4 79 rfl rfl) (tb4 81 rfl rfl)
theorem lq_9_43 (fz : Bool) (nm : String) : rf_wk (cx0 fz) ocl0 tb0 sp0 str0 (stt0 fz) "MemoryTransactions$Run" nm (.getfield 79, [(1, 12)]) := wk_gf (ci := 1) (r := cq_1) rfl ⟨by decide, "MemoryTransactions$Program", (tb1 64 rfl rfl), Or.inl rfl⟩
theorem lq_9_44 (fz : Bool) (nm : String) : rf_wk (cx0 fz) ocl0 tb0 sp0 str0 (stt0 fz) "MemoryTransactions$Run" nm (.invokevirtual 82, [(0, 2), (1, 92)]) := wk_iv (ci := 1) (r := cq_1) rfl (mtq_92 fz) (mo_92 fz) (tb4 85 rfl rfl) (tb4 84 rfl rfl) (tb4 86 rfl rfl)
theorem lq_9_45 (fz : Bool) (nm : String) : rf_wk (cx0 fz) ocl0 tb0 sp0 str0 (stt0 fz) "MemoryTransactions$Run" nm (.invokevirtual 86, [(0, 1), (8, 94)]) := wk_iv (ci := 8) (r := cq_8) rfl (mtq_94 fz) (mo_94 fz) (tb4 94 rfl rfl) (tb4 93 rfl rfl) (tb4 95 rfl rfl)
theorem lq_9_46 (fz : Bool) (nm : String) : rf_wk (cx0 fz) ocl0 tb0 sp0 str0 (stt0 fz) "MemoryTransactions$Run" nm (.invokevirtual 89, [(0, 1), (1, 93)]) := wk_iv (ci := 1) (r := cq_1) rfl (mtq_93 fz) (mo_93 fz) (tb4 90 rfl rfl) (tb4 97 rfl rfl) (tb4 91 rfl rfl)
theorem lq_9_47 (fz : Bool) (nm : String) : rf_wk (cx0 fz) ocl0 tb0 sp0 str0 (stt0 fz) "MemoryTransactions$Run" nm (.invokevirtual 93, [(0, 0), (7, 95)]) := wk_iv (ci := 7) (r := cq_7) rfl (mtq_95 fz) (mo_95 fz) (tb4 100 rfl rfl) (tb4 98 rfl rfl) (tbm 31 (by decide +kernel))
theorem lq_9_48 (fz : Bool) (nm : String) : rf_wk (cx0 fz) ocl0 tb0 sp0 str0 (stt0 fz) "MemoryTransactions$Run" nm (.invokevirtual 97, [(0, 0), (7, 98)]) := wk_iv (ci := 7) (r := cq_7) rfl (mtq_98 fz) (mo_98 fz) (tb4 112 rfl rfl) (tb4 110 rfl rfl) (tbm 32 (by decide +kernel))
theorem lq_9_49 (fz : Bool) (nm : String) : rf_wk (cx0 fz) ocl0 tb0 sp0 str0 (stt0 fz) "MemoryTransactions$Run" nm (.invokevirtual 127, [(0, 2), (1, 96)]) := wk_iv (ci := 1) (r := cq_1) rfl (mtq_96 fz) (mo_96 fz) (tb4 103 rfl rfl) (tb4 102 rfl rfl) (tb4 104 rfl rfl)
theorem lq_9_50 (fz : Bool) (nm : String) : rf_wk (cx0 fz) ocl0 tb0 sp0 str0 (stt0 fz) "MemoryTransactions$Run" nm (.invokevirtual 130, [(0, 1), (8, 97)]) := wk_iv (ci := 8) (r := cq_8) rfl (mtq_97 fz) (mo_97 fz) (tb4 107 rfl rfl) (tb4 106 rfl rfl) (tb4 108 rfl rfl)
theorem lq_9_51 (fz : Bool) (nm : String) : rf_wk (cx0 fz) ocl0 tb0 sp0 str0 (stt0 fz) "MemoryTransactions$Run" nm (.getfield 117, [(1, 13)]) := wk_gf (ci := 1) (r := cq_1) rfl ⟨by decide, "MemoryTransactions$Program", (tb1 67 rfl rfl), Or.inl rfl⟩
theorem lq_9_52 (fz : Bool) (nm : String) : rf_wk (cx0 fz) ocl0 tb0 sp0 str0 (stt0 fz) "MemoryTransactions$Run" nm (.getfield 29, [(7, 9)]) := wk_gf (ci := 7) (r := cq_7) rfl ⟨by decide, "MemoryTransactions$Run", (tb2 59 rfl rfl), Or.inl rfl⟩
theorem lq_9_53 (fz : Bool) (nm : String) : rf_wk (cx0 fz) ocl0 tb0 sp0 str0 (stt0 fz) "MemoryTransactions$Run" nm (.getfield 100, [(1, 7)]) := wk_gf (ci := 1) (r := cq_1) rfl ⟨by decide, "MemoryTransactions$Program", (tb1 55 rfl rfl), Or.inl rfl⟩
theorem lq_9_54 (fz : Bool) (nm : String) : rf_wk (cx0 fz) ocl0 tb0 sp0 str0 (stt0 fz) "MemoryTransactions$Run" nm (.invokevirtual 103, [(0, 3), (5, 65)]) := wk_iv (ci := 5) (r := cq_5) rfl (mtq_65 fz) (mo_65 fz) (tb3 212 rfl rfl) (tb4 114 rfl rfl) (tb3 213 rfl rfl)
theorem lq_9_55 (fz : Bool) (nm : String) : rf_wk (cx0 fz) ocl0 tb0 sp0 str0 (stt0 fz) "MemoryTransactions$Run" nm (.ldc2_w 107, [(1, 18446744073709551615)]) := wk_l2 (tb4 115 rfl rfl)
theorem lq_9_56 (fz : Bool) (nm : String) : rf_wk (cx0 fz) ocl0 tb0 sp0 str0 (stt0 fz) "MemoryTransactions$Run" nm (.invokevirtual 109, [(0, 1), (7, 99)]) := wk_iv (ci := 7) (r := cq_7) rfl (mtq_99 fz) (mo_99 fz) (tb4 118 rfl rfl) (tb4 116 rfl rfl) (tbm 33 (by decide +kernel))
theorem lq_9_57 (fz : Bool) (nm : String) : rf_wk (cx0 fz) ocl0 tb0 sp0 str0 (stt0 fz) "MemoryTransactions$Run" nm (.invokevirtual 113, [(0, 0), (5, 76)]) := wk_iv (ci := 5) (r := cq_5) rfl (mtq_76 fz) (mo_76 fz) (tb4 17 rfl rfl) (tb4 125 rfl rfl) (tb4 18 rfl rfl)
theorem lq_9_58 (fz : Bool) (nm : String) : rf_wk (cx0 fz) ocl0 tb0 sp0 str0 (stt0 fz) "MemoryTransactions$Run" nm (.getfield 120, [(1, 6)]) := wk_gf (ci := 1) (r := cq_1) rfl ⟨by decide, "MemoryTransactions$Program", (tb1 52 rfl rfl), Or.inl rfl⟩
theorem lq_9_59 (fz : Bool) (nm : String) : rf_wk (cx0 fz) ocl0 tb0 sp0 str0 (stt0 fz) "MemoryTransactions$Run" nm (.invokevirtual 123, [(0, 2), (8, 100)]) := wk_iv (ci := 8) (r := cq_8) rfl (mtq_100 fz) (mo_100 fz) (tb4 121 rfl rfl) (tb4 120 rfl rfl) (tb4 122 rfl rfl)
def lk_9 : List (Bool × rf_I) := [(false, (.invokespecial 3, [(0, 0), (0, 6)])), (false, (.newarray .int, [])), (true, (.putfield 9, [(7, 4)])), (false, (.new 15, [(0, 8)])), (false, (.invokespecial 17, [(0, 0), (0, 10)])), (true, (.putfield 18, [(7, 5)])), (false, (.newarray .long, [])), (true, (.putfield 22, [(7, 7)])), (false, (.new 26, [(0, 5)])), (false, (.invokespecial 28, [(0, 0), (0, 7)])), (true, (.putfield 29, [(7, 9)])), (true, (.putfield 33, [(7, 8)])), (false, (.putfield 37, [(7, 0)])), (false, (.invokestatic 139, [(0, 1), (0, 52)])), (false, (.getfield 18, [(7, 5)])), (false, (.invokevirtual 142, [(0, 1), (8, 68)])), (false, (.invokevirtual 145, [(0, 1), (7, 69)])), (false, (.invokevirtual 148, [(0, 1), (7, 70)])), (false, (.putfield 152, [(7, 10)])), (false, (.invokevirtual 155, [(0, 0), (7, 71)])), (false, (.getfield 53, [(7, 2)])), (false, (.putfield 53, [(7, 2)])), (false, (.getfield 22, [(7, 7)])), (false, (.getfield 33, [(7, 8)])), (false, (.getfield 159, [(4, 0)])), (false, (.getfield 9, [(7, 4)])), (false, (.getfield 162, [(4, 1)])), (false, (.getfield 165, [(8, 2)])), (false, (.getfield 168, [(8, 1)])), (false, (.invokevirtual 133, [(0, 2), (4, 72)])), (false, (.getfield 41, [(1, 4)])), (false, (.putfield 47, [(7, 6)])), (false, (.putfield 50, [(7, 1)])), (false, (.putfield 56, [(7, 3)])), (false, (.invokevirtual 60, [(0, 0), (8, 88)])), (false, (.getfield 50, [(7, 1)])), (false, (.ldc2_w 63, [(1, 18446744073709551613)])), (false, (.getfield 37, [(7, 0)])), (false, (.getfield 47, [(7, 6)])), (false, (.invokevirtual 65, [(0, 1), (1, 64)])), (false, (.getfield 69, [(1, 5)])), (false, (.getfield 72, [(1, 10)])), (false, (.invokevirtual 75, [(0, 1), (8, 91)])), (false, (.getfield 79, [(1, 12)])), (false, (.invokevirtual 82, [(0, 2), (1, 92)])), (false, (.invokevirtual 86, [(0, 1), (8, 94)])), (false, (.invokevirtual 89, [(0, 1), (1, 93)])), (false, (.invokevirtual 93, [(0, 0), (7, 95)])), (false, (.invokevirtual 97, [(0, 0), (7, 98)])), (false, (.invokevirtual 127, [(0, 2), (1, 96)])), (false, (.invokevirtual 130, [(0, 1), (8, 97)])), (false, (.getfield 117, [(1, 13)])), (false, (.getfield 29, [(7, 9)])), (false, (.getfield 100, [(1, 7)])), (false, (.invokevirtual 103, [(0, 3), (5, 65)])), (false, (.ldc2_w 107, [(1, 18446744073709551615)])), (false, (.invokevirtual 109, [(0, 1), (7, 99)])), (false, (.invokevirtual 113, [(0, 0), (5, 76)])), (false, (.getfield 120, [(1, 6)])), (false, (.invokevirtual 123, [(0, 2), (8, 100)]))]
set_option maxRecDepth 100000 in
theorem lk_9_ok (fz : Bool) : ∀ e ∈ lk_9, ∀ nm : String, (e.1 = true → nm = "<init>") → rf_wk (cx0 fz) ocl0 tb0 sp0 str0 (stt0 fz) (nmO 9) nm e.2 := List.forall_mem_cons.mpr ⟨(fun nm _ => lq_9_0 fz nm), List.forall_mem_cons.mpr ⟨(fun nm _ => lq_9_1 fz nm), List.forall_mem_cons.mpr ⟨(fun nm hn => lq_9_2 fz nm (hn rfl)), List.forall_mem_cons.mpr ⟨(fun nm _ => lq_9_3 fz nm), List.forall_mem_cons.mpr ⟨(fun nm _ => lq_9_4 fz nm), List.forall_mem_cons.mpr ⟨(fun nm hn => lq_9_5 fz nm (hn rfl)), List.forall_mem_cons.mpr ⟨(fun nm _ => lq_9_6 fz nm), List.forall_mem_cons.mpr ⟨(fun nm hn => lq_9_7 fz nm (hn rfl)), List.forall_mem_cons.mpr ⟨(fun nm _ => lq_9_8 fz nm), List.forall_mem_cons.mpr ⟨(fun nm _ => lq_9_9 fz nm), List.forall_mem_cons.mpr ⟨(fun nm hn => lq_9_10 fz nm (hn rfl)), List.forall_mem_cons.mpr ⟨(fun nm hn => lq_9_11 fz nm (hn rfl)), List.forall_mem_cons.mpr ⟨(fun nm _ => lq_9_12 fz nm), List.forall_mem_cons.mpr ⟨(fun nm _ => lq_9_13 fz nm), List.forall_mem_cons.mpr ⟨(fun nm _ => lq_9_14 fz nm), List.forall_mem_cons.mpr ⟨(fun nm _ => lq_9_15 fz nm), List.forall_mem_cons.mpr ⟨(fun nm _ => lq_9_16 fz nm), List.forall_mem_cons.mpr ⟨(fun nm _ => lq_9_17 fz nm), List.forall_mem_cons.mpr ⟨(fun nm _ => lq_9_18 fz nm), List.forall_mem_cons.mpr ⟨(fun nm _ => lq_9_19 fz nm), List.forall_mem_cons.mpr ⟨(fun nm _ => lq_9_20 fz nm), List.forall_mem_cons.mpr ⟨(fun nm _ => lq_9_21 fz nm), List.forall_mem_cons.mpr ⟨(fun nm _ => lq_9_22 fz nm), List.forall_mem_cons.mpr ⟨(fun nm _ => lq_9_23 fz nm), List.forall_mem_cons.mpr ⟨(fun nm _ => lq_9_24 fz nm), List.forall_mem_cons.mpr ⟨(fun nm _ => lq_9_25 fz nm), List.forall_mem_cons.mpr ⟨(fun nm _ => lq_9_26 fz nm), List.forall_mem_cons.mpr ⟨(fun nm _ => lq_9_27 fz nm), List.forall_mem_cons.mpr ⟨(fun nm _ => lq_9_28 fz nm), List.forall_mem_cons.mpr ⟨(fun nm _ => lq_9_29 fz nm), List.forall_mem_cons.mpr ⟨(fun nm _ => lq_9_30 fz nm), List.forall_mem_cons.mpr ⟨(fun nm _ => lq_9_31 fz nm), List.forall_mem_cons.mpr ⟨(fun nm _ => lq_9_32 fz nm), List.forall_mem_cons.mpr ⟨(fun nm _ => lq_9_33 fz nm), List.forall_mem_cons.mpr ⟨(fun nm _ => lq_9_34 fz nm), List.forall_mem_cons.mpr ⟨(fun nm _ => lq_9_35 fz nm), List.forall_mem_cons.mpr ⟨(fun nm _ => lq_9_36 fz nm), List.forall_mem_cons.mpr ⟨(fun nm _ => lq_9_37 fz nm), List.forall_mem_cons.mpr ⟨(fun nm _ => lq_9_38 fz nm), List.forall_mem_cons.mpr ⟨(fun nm _ => lq_9_39 fz nm), List.forall_mem_cons.mpr ⟨(fun nm _ => lq_9_40 fz nm), List.forall_mem_cons.mpr ⟨(fun nm _ => lq_9_41 fz nm), List.forall_mem_cons.mpr ⟨(fun nm _ => lq_9_42 fz nm), List.forall_mem_cons.mpr ⟨(fun nm _ => lq_9_43 fz nm), List.forall_mem_cons.mpr ⟨(fun nm _ => lq_9_44 fz nm), List.forall_mem_cons.mpr ⟨(fun nm _ => lq_9_45 fz nm), List.forall_mem_cons.mpr ⟨(fun nm _ => lq_9_46 fz nm), List.forall_mem_cons.mpr ⟨(fun nm _ => lq_9_47 fz nm), List.forall_mem_cons.mpr ⟨(fun nm _ => lq_9_48 fz nm), List.forall_mem_cons.mpr ⟨(fun nm _ => lq_9_49 fz nm), List.forall_mem_cons.mpr ⟨(fun nm _ => lq_9_50 fz nm), List.forall_mem_cons.mpr ⟨(fun nm _ => lq_9_51 fz nm), List.forall_mem_cons.mpr ⟨(fun nm _ => lq_9_52 fz nm), List.forall_mem_cons.mpr ⟨(fun nm _ => lq_9_53 fz nm), List.forall_mem_cons.mpr ⟨(fun nm _ => lq_9_54 fz nm), List.forall_mem_cons.mpr ⟨(fun nm _ => lq_9_55 fz nm), List.forall_mem_cons.mpr ⟨(fun nm _ => lq_9_56 fz nm), List.forall_mem_cons.mpr ⟨(fun nm _ => lq_9_57 fz nm), List.forall_mem_cons.mpr ⟨(fun nm _ => lq_9_58 fz nm), List.forall_mem_cons.mpr ⟨(fun nm _ => lq_9_59 fz nm), fun _ h => absurd h List.not_mem_nil⟩⟩⟩⟩⟩⟩⟩⟩⟩⟩⟩⟩⟩⟩⟩⟩⟩⟩⟩⟩⟩⟩⟩⟩⟩⟩⟩⟩⟩⟩⟩⟩⟩⟩⟩⟩⟩⟩⟩⟩⟩⟩⟩⟩⟩⟩⟩⟩⟩⟩⟩⟩⟩⟩⟩⟩⟩⟩⟩⟩
theorem lq_10_0 (fz : Bool) (nm : String) : rf_wk (cx0 fz) ocl0 tb0 sp0 str0 (stt0 fz) "MemoryTransactions$Draft" nm (.invokespecial 3, [(10, 0)]) := wk_10 (tb1 239 rfl rfl) (tb1 27 rfl rfl) (tb1 28 rfl rfl)
theorem lq_10_1 (fz : Bool) (nm : String) : rf_wk (cx0 fz) ocl0 tb0 sp0 str0 (stt0 fz) "MemoryTransactions$Draft" nm (.newarray .long, []) := wk_newa (tb1 186 rfl rfl)
theorem lq_10_2 (fz : Bool) (nm : String) (hn : nm = "<init>") : rf_wk (cx0 fz) ocl0 tb0 sp0 str0 (stt0 fz) "MemoryTransactions$Draft" nm (.putfield 9, [(8, 1)]) := wk_pff (ci := 8) (r := cq_8) rfl ⟨by decide, "MemoryTransactions$Draft", (tb2 2 rfl rfl), Or.inl rfl⟩ rfl hn rfl
theorem lq_10_3 (fz : Bool) (nm : String) (hn : nm = "<init>") : rf_wk (cx0 fz) ocl0 tb0 sp0 str0 (stt0 fz) "MemoryTransactions$Draft" nm (.putfield 15, [(8, 2)]) := wk_pff (ci := 8) (r := cq_8) rfl ⟨by decide, "MemoryTransactions$Draft", (tb2 5 rfl rfl), Or.inl rfl⟩ rfl hn rfl
theorem lq_10_4 (fz : Bool) (nm : String) : rf_wk (cx0 fz) ocl0 tb0 sp0 str0 (stt0 fz) "MemoryTransactions$Draft" nm (.newarray .int, []) := wk_newa (tb1 106 rfl rfl)
theorem lq_10_5 (fz : Bool) (nm : String) (hn : nm = "<init>") : rf_wk (cx0 fz) ocl0 tb0 sp0 str0 (stt0 fz) "MemoryTransactions$Draft" nm (.putfield 18, [(8, 4)]) := wk_pff (ci := 8) (r := cq_8) rfl ⟨by decide, "MemoryTransactions$Draft", (tb2 10 rfl rfl), Or.inl rfl⟩ rfl hn rfl
theorem lq_10_6 (fz : Bool) (nm : String) (hn : nm = "<init>") : rf_wk (cx0 fz) ocl0 tb0 sp0 str0 (stt0 fz) "MemoryTransactions$Draft" nm (.putfield 22, [(8, 5)]) := wk_pff (ci := 8) (r := cq_8) rfl ⟨by decide, "MemoryTransactions$Draft", (tb2 12 rfl rfl), Or.inl rfl⟩ rfl hn rfl
theorem lq_10_7 (fz : Bool) (nm : String) (hn : nm = "<init>") : rf_wk (cx0 fz) ocl0 tb0 sp0 str0 (stt0 fz) "MemoryTransactions$Draft" nm (.putfield 25, [(8, 6)]) := wk_pff (ci := 8) (r := cq_8) rfl ⟨by decide, "MemoryTransactions$Draft", (tb2 13 rfl rfl), Or.inl rfl⟩ rfl hn rfl
theorem lq_10_8 (fz : Bool) (nm : String) (hn : nm = "<init>") : rf_wk (cx0 fz) ocl0 tb0 sp0 str0 (stt0 fz) "MemoryTransactions$Draft" nm (.putfield 28, [(8, 7)]) := wk_pff (ci := 8) (r := cq_8) rfl ⟨by decide, "MemoryTransactions$Draft", (tb2 14 rfl rfl), Or.inl rfl⟩ rfl hn rfl
theorem lq_10_9 (fz : Bool) (nm : String) (hn : nm = "<init>") : rf_wk (cx0 fz) ocl0 tb0 sp0 str0 (stt0 fz) "MemoryTransactions$Draft" nm (.putfield 31, [(8, 8)]) := wk_pff (ci := 8) (r := cq_8) rfl ⟨by decide, "MemoryTransactions$Draft", (tb2 15 rfl rfl), Or.inl rfl⟩ rfl hn rfl
theorem lq_10_10 (fz : Bool) (nm : String) : rf_wk (cx0 fz) ocl0 tb0 sp0 str0 (stt0 fz) "MemoryTransactions$Draft" nm (.getfield 34, [(8, 0)]) := wk_gf (ci := 8) (r := cq_8) rfl ⟨by decide, "MemoryTransactions$Draft", (tb2 0 rfl rfl), Or.inl rfl⟩
theorem lq_10_11 (fz : Bool) (nm : String) : rf_wk (cx0 fz) ocl0 tb0 sp0 str0 (stt0 fz) "MemoryTransactions$Draft" nm (.putfield 34, [(8, 0)]) := wk_pf (ci := 8) (r := cq_8) rfl ⟨by decide, "MemoryTransactions$Draft", (tb2 0 rfl rfl), Or.inl rfl⟩ rfl
theorem lq_10_12 (fz : Bool) (nm : String) : rf_wk (cx0 fz) ocl0 tb0 sp0 str0 (stt0 fz) "MemoryTransactions$Draft" nm (.putfield 38, [(8, 3)]) := wk_pf (ci := 8) (r := cq_8) rfl ⟨by decide, "MemoryTransactions$Draft", (tb2 7 rfl rfl), Or.inl rfl⟩ rfl
theorem lq_10_13 (fz : Bool) (nm : String) : rf_wk (cx0 fz) ocl0 tb0 sp0 str0 (stt0 fz) "MemoryTransactions$Draft" nm (.getfield 15, [(8, 2)]) := wk_gf (ci := 8) (r := cq_8) rfl ⟨by decide, "MemoryTransactions$Draft", (tb2 5 rfl rfl), Or.inl rfl⟩
theorem lq_10_14 (fz : Bool) (nm : String) : rf_wk (cx0 fz) ocl0 tb0 sp0 str0 (stt0 fz) "MemoryTransactions$Draft" nm (.invokestatic 41, [(0, 2), (0, 89)]) := wk_st (mtq_89 fz) (mo_89 fz) (tb4 71 rfl rfl) (tb4 70 rfl rfl)
theorem lq_10_15 (fz : Bool) (nm : String) : rf_wk (cx0 fz) ocl0 tb0 sp0 str0 (stt0 fz) "MemoryTransactions$Draft" nm (.getfield 22, [(8, 5)]) := wk_gf (ci := 8) (r := cq_8) rfl ⟨by decide, "MemoryTransactions$Draft", (tb2 12 rfl rfl), Or.inl rfl⟩
theorem lq_10_16 (fz : Bool) (nm : String) : rf_wk (cx0 fz) ocl0 tb0 sp0 str0 (stt0 fz) "MemoryTransactions$Draft" nm (.getfield 31, [(8, 8)]) := wk_gf (ci := 8) (r := cq_8) rfl ⟨by decide, "MemoryTransactions$Draft", (tb2 15 rfl rfl), Or.inl rfl⟩
theorem lq_10_17 (fz : Bool) (nm : String) : rf_wk (cx0 fz) ocl0 tb0 sp0 str0 (stt0 fz) "MemoryTransactions$Draft" nm (.getfield 38, [(8, 3)]) := wk_gf (ci := 8) (r := cq_8) rfl ⟨by decide, "MemoryTransactions$Draft", (tb2 7 rfl rfl), Or.inl rfl⟩
theorem lq_10_18 (fz : Bool) (nm : String) : rf_wk (cx0 fz) ocl0 tb0 sp0 str0 (stt0 fz) "MemoryTransactions$Draft" nm (.getfield 9, [(8, 1)]) := wk_gf (ci := 8) (r := cq_8) rfl ⟨by decide, "MemoryTransactions$Draft", (tb2 2 rfl rfl), Or.inl rfl⟩
theorem lq_10_19 (fz : Bool) (nm : String) : rf_wk (cx0 fz) ocl0 tb0 sp0 str0 (stt0 fz) "MemoryTransactions$Draft" nm (.getfield 25, [(8, 6)]) := wk_gf (ci := 8) (r := cq_8) rfl ⟨by decide, "MemoryTransactions$Draft", (tb2 13 rfl rfl), Or.inl rfl⟩
theorem lq_10_20 (fz : Bool) (nm : String) : rf_wk (cx0 fz) ocl0 tb0 sp0 str0 (stt0 fz) "MemoryTransactions$Draft" nm (.invokestatic 51, [(11, 0)]) := wk_11 (tb4 83 rfl rfl) (tb3 197 rfl rfl) (tb3 196 rfl rfl) (tb1 19 rfl rfl)
theorem lq_10_21 (fz : Bool) (nm : String) : rf_wk (cx0 fz) ocl0 tb0 sp0 str0 (stt0 fz) "MemoryTransactions$Draft" nm (.getfield 28, [(8, 7)]) := wk_gf (ci := 8) (r := cq_8) rfl ⟨by decide, "MemoryTransactions$Draft", (tb2 14 rfl rfl), Or.inl rfl⟩
theorem lq_10_22 (fz : Bool) (nm : String) : rf_wk (cx0 fz) ocl0 tb0 sp0 str0 (stt0 fz) "MemoryTransactions$Draft" nm (.getfield 18, [(8, 4)]) := wk_gf (ci := 8) (r := cq_8) rfl ⟨by decide, "MemoryTransactions$Draft", (tb2 10 rfl rfl), Or.inl rfl⟩
theorem lq_10_23 (fz : Bool) (nm : String) : rf_wk (cx0 fz) ocl0 tb0 sp0 str0 (stt0 fz) "MemoryTransactions$Draft" nm (.invokestatic 47, [(0, 1), (0, 52)]) := wk_stN (host := "MemoryTransactions") (mtq_52 fz) (mo_52 fz) (tb3 152 rfl rfl) (spm 928 (by decide +kernel))
def lk_10 : List (Bool × rf_I) := [(false, (.invokespecial 3, [(10, 0)])), (false, (.newarray .long, [])), (true, (.putfield 9, [(8, 1)])), (true, (.putfield 15, [(8, 2)])), (false, (.newarray .int, [])), (true, (.putfield 18, [(8, 4)])), (true, (.putfield 22, [(8, 5)])), (true, (.putfield 25, [(8, 6)])), (true, (.putfield 28, [(8, 7)])), (true, (.putfield 31, [(8, 8)])), (false, (.getfield 34, [(8, 0)])), (false, (.putfield 34, [(8, 0)])), (false, (.putfield 38, [(8, 3)])), (false, (.getfield 15, [(8, 2)])), (false, (.invokestatic 41, [(0, 2), (0, 89)])), (false, (.getfield 22, [(8, 5)])), (false, (.getfield 31, [(8, 8)])), (false, (.getfield 38, [(8, 3)])), (false, (.getfield 9, [(8, 1)])), (false, (.getfield 25, [(8, 6)])), (false, (.invokestatic 51, [(11, 0)])), (false, (.getfield 28, [(8, 7)])), (false, (.getfield 18, [(8, 4)])), (false, (.invokestatic 47, [(0, 1), (0, 52)]))]
set_option maxRecDepth 100000 in
theorem lk_10_ok (fz : Bool) : ∀ e ∈ lk_10, ∀ nm : String, (e.1 = true → nm = "<init>") → rf_wk (cx0 fz) ocl0 tb0 sp0 str0 (stt0 fz) (nmO 10) nm e.2 := List.forall_mem_cons.mpr ⟨(fun nm _ => lq_10_0 fz nm), List.forall_mem_cons.mpr ⟨(fun nm _ => lq_10_1 fz nm), List.forall_mem_cons.mpr ⟨(fun nm hn => lq_10_2 fz nm (hn rfl)), List.forall_mem_cons.mpr ⟨(fun nm hn => lq_10_3 fz nm (hn rfl)), List.forall_mem_cons.mpr ⟨(fun nm _ => lq_10_4 fz nm), List.forall_mem_cons.mpr ⟨(fun nm hn => lq_10_5 fz nm (hn rfl)), List.forall_mem_cons.mpr ⟨(fun nm hn => lq_10_6 fz nm (hn rfl)), List.forall_mem_cons.mpr ⟨(fun nm hn => lq_10_7 fz nm (hn rfl)), List.forall_mem_cons.mpr ⟨(fun nm hn => lq_10_8 fz nm (hn rfl)), List.forall_mem_cons.mpr ⟨(fun nm hn => lq_10_9 fz nm (hn rfl)), List.forall_mem_cons.mpr ⟨(fun nm _ => lq_10_10 fz nm), List.forall_mem_cons.mpr ⟨(fun nm _ => lq_10_11 fz nm), List.forall_mem_cons.mpr ⟨(fun nm _ => lq_10_12 fz nm), List.forall_mem_cons.mpr ⟨(fun nm _ => lq_10_13 fz nm), List.forall_mem_cons.mpr ⟨(fun nm _ => lq_10_14 fz nm), List.forall_mem_cons.mpr ⟨(fun nm _ => lq_10_15 fz nm), List.forall_mem_cons.mpr ⟨(fun nm _ => lq_10_16 fz nm), List.forall_mem_cons.mpr ⟨(fun nm _ => lq_10_17 fz nm), List.forall_mem_cons.mpr ⟨(fun nm _ => lq_10_18 fz nm), List.forall_mem_cons.mpr ⟨(fun nm _ => lq_10_19 fz nm), List.forall_mem_cons.mpr ⟨(fun nm _ => lq_10_20 fz nm), List.forall_mem_cons.mpr ⟨(fun nm _ => lq_10_21 fz nm), List.forall_mem_cons.mpr ⟨(fun nm _ => lq_10_22 fz nm), List.forall_mem_cons.mpr ⟨(fun nm _ => lq_10_23 fz nm), fun _ h => absurd h List.not_mem_nil⟩⟩⟩⟩⟩⟩⟩⟩⟩⟩⟩⟩⟩⟩⟩⟩⟩⟩⟩⟩⟩⟩⟩⟩
theorem lq_11_0 (fz : Bool) (nm : String) : rf_wk (cx0 fz) ocl0 tb0 sp0 str0 (stt0 fz) "MemoryTransactions$Journal" nm (.invokespecial 3, [(10, 0)]) := wk_10 (tb2 117 rfl rfl) (tb1 27 rfl rfl) (tb1 28 rfl rfl)
theorem lq_11_1 (fz : Bool) (nm : String) : rf_wk (cx0 fz) ocl0 tb0 sp0 str0 (stt0 fz) "MemoryTransactions$Journal" nm (.newarray .int, []) := wk_newa (tb1 106 rfl rfl)
theorem lq_11_2 (fz : Bool) (nm : String) (hn : nm = "<init>") : rf_wk (cx0 fz) ocl0 tb0 sp0 str0 (stt0 fz) "MemoryTransactions$Journal" nm (.putfield 9, [(9, 1)]) := wk_pff (ci := 9) (r := cq_9) rfl ⟨by decide, "MemoryTransactions$Journal", (tb2 120 rfl rfl), Or.inl rfl⟩ rfl hn rfl
theorem lq_11_3 (fz : Bool) (nm : String) (hn : nm = "<init>") : rf_wk (cx0 fz) ocl0 tb0 sp0 str0 (stt0 fz) "MemoryTransactions$Journal" nm (.putfield 15, [(9, 2)]) := wk_pff (ci := 9) (r := cq_9) rfl ⟨by decide, "MemoryTransactions$Journal", (tb2 122 rfl rfl), Or.inl rfl⟩ rfl hn rfl
theorem lq_11_4 (fz : Bool) (nm : String) (hn : nm = "<init>") : rf_wk (cx0 fz) ocl0 tb0 sp0 str0 (stt0 fz) "MemoryTransactions$Journal" nm (.putfield 18, [(9, 3)]) := wk_pff (ci := 9) (r := cq_9) rfl ⟨by decide, "MemoryTransactions$Journal", (tb2 123 rfl rfl), Or.inl rfl⟩ rfl hn rfl
theorem lq_11_5 (fz : Bool) (nm : String) (hn : nm = "<init>") : rf_wk (cx0 fz) ocl0 tb0 sp0 str0 (stt0 fz) "MemoryTransactions$Journal" nm (.putfield 21, [(9, 4)]) := wk_pff (ci := 9) (r := cq_9) rfl ⟨by decide, "MemoryTransactions$Journal", (tb2 125 rfl rfl), Or.inl rfl⟩ rfl hn rfl
theorem lq_11_6 (fz : Bool) (nm : String) (hn : nm = "<init>") : rf_wk (cx0 fz) ocl0 tb0 sp0 str0 (stt0 fz) "MemoryTransactions$Journal" nm (.putfield 24, [(9, 5)]) := wk_pff (ci := 9) (r := cq_9) rfl ⟨by decide, "MemoryTransactions$Journal", (tb2 127 rfl rfl), Or.inl rfl⟩ rfl hn rfl
theorem lq_11_7 (fz : Bool) (nm : String) : rf_wk (cx0 fz) ocl0 tb0 sp0 str0 (stt0 fz) "MemoryTransactions$Journal" nm (.newarray .long, []) := wk_newa (tb1 186 rfl rfl)
theorem lq_11_8 (fz : Bool) (nm : String) (hn : nm = "<init>") : rf_wk (cx0 fz) ocl0 tb0 sp0 str0 (stt0 fz) "MemoryTransactions$Journal" nm (.putfield 27, [(9, 6)]) := wk_pff (ci := 9) (r := cq_9) rfl ⟨by decide, "MemoryTransactions$Journal", (tb2 128 rfl rfl), Or.inl rfl⟩ rfl hn rfl
theorem lq_11_9 (fz : Bool) (nm : String) : rf_wk (cx0 fz) ocl0 tb0 sp0 str0 (stt0 fz) "MemoryTransactions$Journal" nm (.getfield 31, [(9, 0)]) := wk_gf (ci := 9) (r := cq_9) rfl ⟨by decide, "MemoryTransactions$Journal", (tb2 118 rfl rfl), Or.inl rfl⟩
theorem lq_11_10 (fz : Bool) (nm : String) : rf_wk (cx0 fz) ocl0 tb0 sp0 str0 (stt0 fz) "MemoryTransactions$Journal" nm (.invokevirtual 35, [(0, 0), (9, 60)]) := wk_iv (ci := 9) (r := cq_9) rfl (mtq_60 fz) (mo_60 fz) (tb3 188 rfl rfl) (tb4 28 rfl rfl) (tb3 189 rfl rfl)
theorem lq_11_11 (fz : Bool) (nm : String) : rf_wk (cx0 fz) ocl0 tb0 sp0 str0 (stt0 fz) "MemoryTransactions$Journal" nm (.getfield 9, [(9, 1)]) := wk_gf (ci := 9) (r := cq_9) rfl ⟨by decide, "MemoryTransactions$Journal", (tb2 120 rfl rfl), Or.inl rfl⟩
theorem lq_11_12 (fz : Bool) (nm : String) : rf_wk (cx0 fz) ocl0 tb0 sp0 str0 (stt0 fz) "MemoryTransactions$Journal" nm (.getfield 15, [(9, 2)]) := wk_gf (ci := 9) (r := cq_9) rfl ⟨by decide, "MemoryTransactions$Journal", (tb2 122 rfl rfl), Or.inl rfl⟩
theorem lq_11_13 (fz : Bool) (nm : String) : rf_wk (cx0 fz) ocl0 tb0 sp0 str0 (stt0 fz) "MemoryTransactions$Journal" nm (.getfield 18, [(9, 3)]) := wk_gf (ci := 9) (r := cq_9) rfl ⟨by decide, "MemoryTransactions$Journal", (tb2 123 rfl rfl), Or.inl rfl⟩
theorem lq_11_14 (fz : Bool) (nm : String) : rf_wk (cx0 fz) ocl0 tb0 sp0 str0 (stt0 fz) "MemoryTransactions$Journal" nm (.getfield 21, [(9, 4)]) := wk_gf (ci := 9) (r := cq_9) rfl ⟨by decide, "MemoryTransactions$Journal", (tb2 125 rfl rfl), Or.inl rfl⟩
theorem lq_11_15 (fz : Bool) (nm : String) : rf_wk (cx0 fz) ocl0 tb0 sp0 str0 (stt0 fz) "MemoryTransactions$Journal" nm (.getfield 24, [(9, 5)]) := wk_gf (ci := 9) (r := cq_9) rfl ⟨by decide, "MemoryTransactions$Journal", (tb2 127 rfl rfl), Or.inl rfl⟩
theorem lq_11_16 (fz : Bool) (nm : String) : rf_wk (cx0 fz) ocl0 tb0 sp0 str0 (stt0 fz) "MemoryTransactions$Journal" nm (.getfield 27, [(9, 6)]) := wk_gf (ci := 9) (r := cq_9) rfl ⟨by decide, "MemoryTransactions$Journal", (tb2 128 rfl rfl), Or.inl rfl⟩
theorem lq_11_17 (fz : Bool) (nm : String) : rf_wk (cx0 fz) ocl0 tb0 sp0 str0 (stt0 fz) "MemoryTransactions$Journal" nm (.putfield 31, [(9, 0)]) := wk_pf (ci := 9) (r := cq_9) rfl ⟨by decide, "MemoryTransactions$Journal", (tb2 118 rfl rfl), Or.inl rfl⟩ rfl
theorem lq_11_18 (fz : Bool) (nm : String) : rf_wk (cx0 fz) ocl0 tb0 sp0 str0 (stt0 fz) "MemoryTransactions$Journal" nm (.invokevirtual 39, [(0, 1), (9, 116)]) := wk_iv (ci := 9) (r := cq_9) rfl (mtq_116 fz) (mo_116 fz) (tb4 195 rfl rfl) (tb4 194 rfl rfl) (tb4 196 rfl rfl)
def lk_11 : List (Bool × rf_I) := [(false, (.invokespecial 3, [(10, 0)])), (false, (.newarray .int, [])), (true, (.putfield 9, [(9, 1)])), (true, (.putfield 15, [(9, 2)])), (true, (.putfield 18, [(9, 3)])), (true, (.putfield 21, [(9, 4)])), (true, (.putfield 24, [(9, 5)])), (false, (.newarray .long, [])), (true, (.putfield 27, [(9, 6)])), (false, (.getfield 31, [(9, 0)])), (false, (.invokevirtual 35, [(0, 0), (9, 60)])), (false, (.getfield 9, [(9, 1)])), (false, (.getfield 15, [(9, 2)])), (false, (.getfield 18, [(9, 3)])), (false, (.getfield 21, [(9, 4)])), (false, (.getfield 24, [(9, 5)])), (false, (.getfield 27, [(9, 6)])), (false, (.putfield 31, [(9, 0)])), (false, (.invokevirtual 39, [(0, 1), (9, 116)]))]
set_option maxRecDepth 100000 in
theorem lk_11_ok (fz : Bool) : ∀ e ∈ lk_11, ∀ nm : String, (e.1 = true → nm = "<init>") → rf_wk (cx0 fz) ocl0 tb0 sp0 str0 (stt0 fz) (nmO 11) nm e.2 := List.forall_mem_cons.mpr ⟨(fun nm _ => lq_11_0 fz nm), List.forall_mem_cons.mpr ⟨(fun nm _ => lq_11_1 fz nm), List.forall_mem_cons.mpr ⟨(fun nm hn => lq_11_2 fz nm (hn rfl)), List.forall_mem_cons.mpr ⟨(fun nm hn => lq_11_3 fz nm (hn rfl)), List.forall_mem_cons.mpr ⟨(fun nm hn => lq_11_4 fz nm (hn rfl)), List.forall_mem_cons.mpr ⟨(fun nm hn => lq_11_5 fz nm (hn rfl)), List.forall_mem_cons.mpr ⟨(fun nm hn => lq_11_6 fz nm (hn rfl)), List.forall_mem_cons.mpr ⟨(fun nm _ => lq_11_7 fz nm), List.forall_mem_cons.mpr ⟨(fun nm hn => lq_11_8 fz nm (hn rfl)), List.forall_mem_cons.mpr ⟨(fun nm _ => lq_11_9 fz nm), List.forall_mem_cons.mpr ⟨(fun nm _ => lq_11_10 fz nm), List.forall_mem_cons.mpr ⟨(fun nm _ => lq_11_11 fz nm), List.forall_mem_cons.mpr ⟨(fun nm _ => lq_11_12 fz nm), List.forall_mem_cons.mpr ⟨(fun nm _ => lq_11_13 fz nm), List.forall_mem_cons.mpr ⟨(fun nm _ => lq_11_14 fz nm), List.forall_mem_cons.mpr ⟨(fun nm _ => lq_11_15 fz nm), List.forall_mem_cons.mpr ⟨(fun nm _ => lq_11_16 fz nm), List.forall_mem_cons.mpr ⟨(fun nm _ => lq_11_17 fz nm), List.forall_mem_cons.mpr ⟨(fun nm _ => lq_11_18 fz nm), fun _ h => absurd h List.not_mem_nil⟩⟩⟩⟩⟩⟩⟩⟩⟩⟩⟩⟩⟩⟩⟩⟩⟩⟩⟩
theorem lq_12_0 (fz : Bool) (nm : String) : rf_wk (cx0 fz) ocl0 tb0 sp0 str0 (stt0 fz) "MemoryTransactions$Replay" nm (.invokespecial 3, [(10, 0)]) := wk_10 (tb2 151 rfl rfl) (tb1 27 rfl rfl) (tb1 28 rfl rfl)
theorem lq_12_1 (fz : Bool) (nm : String) (hn : nm = "<init>") : rf_wk (cx0 fz) ocl0 tb0 sp0 str0 (stt0 fz) "MemoryTransactions$Replay" nm (.putfield 9, [(10, 3)]) := wk_pff (ci := 10) (r := cq_10) rfl ⟨by decide, "MemoryTransactions$Replay", (tb2 162 rfl rfl), Or.inl rfl⟩ rfl hn rfl
theorem lq_12_2 (fz : Bool) (nm : String) : rf_wk (cx0 fz) ocl0 tb0 sp0 str0 (stt0 fz) "MemoryTransactions$Replay" nm (.new 15, [(0, 4)]) := wk_new (r := cq_4) rfl (tb2 152 rfl rfl) (tb1 164 rfl rfl) (tb1 6 rfl rfl)
theorem lq_12_3 (fz : Bool) (nm : String) : rf_wk (cx0 fz) ocl0 tb0 sp0 str0 (stt0 fz) "MemoryTransactions$Replay" nm (.invokespecial 17, [(0, 0), (0, 5)]) := wk_isN (host := "MemoryTransactions") (mtq_5 fz) (mo_5 fz) (tb1 166 rfl rfl) rfl (spm 477 (by decide +kernel))
theorem lq_12_4 (fz : Bool) (nm : String) (hn : nm = "<init>") : rf_wk (cx0 fz) ocl0 tb0 sp0 str0 (stt0 fz) "MemoryTransactions$Replay" nm (.putfield 18, [(10, 0)]) := wk_pff (ci := 10) (r := cq_10) rfl ⟨by decide, "MemoryTransactions$Replay", (tb2 156 rfl rfl), Or.inl rfl⟩ rfl hn rfl
theorem lq_12_5 (fz : Bool) (nm : String) : rf_wk (cx0 fz) ocl0 tb0 sp0 str0 (stt0 fz) "MemoryTransactions$Replay" nm (.new 22, [(0, 7)]) := wk_new (r := cq_7) rfl (tb2 154 rfl rfl) (tb1 229 rfl rfl) (tb1 9 rfl rfl)
theorem lq_12_6 (fz : Bool) (nm : String) : rf_wk (cx0 fz) ocl0 tb0 sp0 str0 (stt0 fz) "MemoryTransactions$Replay" nm (.getfield 18, [(10, 0)]) := wk_gf (ci := 10) (r := cq_10) rfl ⟨by decide, "MemoryTransactions$Replay", (tb2 156 rfl rfl), Or.inl rfl⟩
theorem lq_12_7 (fz : Bool) (nm : String) : rf_wk (cx0 fz) ocl0 tb0 sp0 str0 (stt0 fz) "MemoryTransactions$Replay" nm (.invokespecial 24, [(0, 2), (0, 9)]) := wk_is (mtq_9 fz) (mo_9 fz) (tb1 231 rfl rfl) rfl (tb2 155 rfl rfl)
theorem lq_12_8 (fz : Bool) (nm : String) (hn : nm = "<init>") : rf_wk (cx0 fz) ocl0 tb0 sp0 str0 (stt0 fz) "MemoryTransactions$Replay" nm (.putfield 27, [(10, 4)]) := wk_pff (ci := 10) (r := cq_10) rfl ⟨by decide, "MemoryTransactions$Replay", (tb2 163 rfl rfl), Or.inl rfl⟩ rfl hn rfl
theorem lq_12_9 (fz : Bool) (nm : String) : rf_wk (cx0 fz) ocl0 tb0 sp0 str0 (stt0 fz) "MemoryTransactions$Replay" nm (.putfield 31, [(10, 1)]) := wk_pf (ci := 10) (r := cq_10) rfl ⟨by decide, "MemoryTransactions$Replay", (tb2 158 rfl rfl), Or.inl rfl⟩ rfl
theorem lq_12_10 (fz : Bool) (nm : String) : rf_wk (cx0 fz) ocl0 tb0 sp0 str0 (stt0 fz) "MemoryTransactions$Replay" nm (.putfield 35, [(10, 2)]) := wk_pf (ci := 10) (r := cq_10) rfl ⟨by decide, "MemoryTransactions$Replay", (tb2 160 rfl rfl), Or.inl rfl⟩ rfl
theorem lq_12_11 (fz : Bool) (nm : String) : rf_wk (cx0 fz) ocl0 tb0 sp0 str0 (stt0 fz) "MemoryTransactions$Replay" nm (.invokevirtual 42, [(0, 1), (9, 116)]) := wk_iv (ci := 9) (r := cq_9) rfl (mtq_116 fz) (mo_116 fz) (tb4 195 rfl rfl) (tb4 211 rfl rfl) (tb4 196 rfl rfl)
theorem lq_12_12 (fz : Bool) (nm : String) : rf_wk (cx0 fz) ocl0 tb0 sp0 str0 (stt0 fz) "MemoryTransactions$Replay" nm (.getfield 48, [(9, 3)]) := wk_gf (ci := 9) (r := cq_9) rfl ⟨by decide, "MemoryTransactions$Journal", (tb2 124 rfl rfl), Or.inl rfl⟩
theorem lq_12_13 (fz : Bool) (nm : String) : rf_wk (cx0 fz) ocl0 tb0 sp0 str0 (stt0 fz) "MemoryTransactions$Replay" nm (.getfield 52, [(9, 1)]) := wk_gf (ci := 9) (r := cq_9) rfl ⟨by decide, "MemoryTransactions$Journal", (tb2 121 rfl rfl), Or.inl rfl⟩
theorem lq_12_14 (fz : Bool) (nm : String) : rf_wk (cx0 fz) ocl0 tb0 sp0 str0 (stt0 fz) "MemoryTransactions$Replay" nm (.getfield 35, [(10, 2)]) := wk_gf (ci := 10) (r := cq_10) rfl ⟨by decide, "MemoryTransactions$Replay", (tb2 160 rfl rfl), Or.inl rfl⟩
theorem lq_12_15 (fz : Bool) (nm : String) : rf_wk (cx0 fz) ocl0 tb0 sp0 str0 (stt0 fz) "MemoryTransactions$Replay" nm (.getfield 55, [(9, 6)]) := wk_gf (ci := 9) (r := cq_9) rfl ⟨by decide, "MemoryTransactions$Journal", (tb2 129 rfl rfl), Or.inl rfl⟩
theorem lq_12_16 (fz : Bool) (nm : String) : rf_wk (cx0 fz) ocl0 tb0 sp0 str0 (stt0 fz) "MemoryTransactions$Replay" nm (.invokevirtual 59, [(0, 2), (4, 61)]) := wk_iv (ci := 4) (r := cq_4) rfl (mtq_61 fz) (mo_61 fz) (tb3 192 rfl rfl) (tb4 212 rfl rfl) (tb3 193 rfl rfl)
theorem lq_12_17 (fz : Bool) (nm : String) : rf_wk (cx0 fz) ocl0 tb0 sp0 str0 (stt0 fz) "MemoryTransactions$Replay" nm (.invokevirtual 63, [(0, 2), (4, 77)]) := wk_iv (ci := 4) (r := cq_4) rfl (mtq_77 fz) (mo_77 fz) (tb4 21 rfl rfl) (tb4 213 rfl rfl) (tb4 22 rfl rfl)
theorem lq_12_18 (fz : Bool) (nm : String) : rf_wk (cx0 fz) ocl0 tb0 sp0 str0 (stt0 fz) "MemoryTransactions$Replay" nm (.getfield 9, [(10, 3)]) := wk_gf (ci := 10) (r := cq_10) rfl ⟨by decide, "MemoryTransactions$Replay", (tb2 162 rfl rfl), Or.inl rfl⟩
theorem lq_12_19 (fz : Bool) (nm : String) : rf_wk (cx0 fz) ocl0 tb0 sp0 str0 (stt0 fz) "MemoryTransactions$Replay" nm (.getfield 27, [(10, 4)]) := wk_gf (ci := 10) (r := cq_10) rfl ⟨by decide, "MemoryTransactions$Replay", (tb2 163 rfl rfl), Or.inl rfl⟩
theorem lq_12_20 (fz : Bool) (nm : String) : rf_wk (cx0 fz) ocl0 tb0 sp0 str0 (stt0 fz) "MemoryTransactions$Replay" nm (.invokevirtual 67, [(0, 1), (7, 87)]) := wk_iv (ci := 7) (r := cq_7) rfl (mtq_87 fz) (mo_87 fz) (tb4 63 rfl rfl) (tb4 214 rfl rfl) (tb4 64 rfl rfl)
theorem lq_12_21 (fz : Bool) (nm : String) : rf_wk (cx0 fz) ocl0 tb0 sp0 str0 (stt0 fz) "MemoryTransactions$Replay" nm (.invokevirtual 71, [(0, 0), (7, 90)]) := wk_iv (ci := 7) (r := cq_7) rfl (mtq_90 fz) (mo_90 fz) (tb4 74 rfl rfl) (tb4 215 rfl rfl) (tb4 75 rfl rfl)
theorem lq_12_22 (fz : Bool) (nm : String) : rf_wk (cx0 fz) ocl0 tb0 sp0 str0 (stt0 fz) "MemoryTransactions$Replay" nm (.getfield 75, [(7, 0)]) := wk_gf (ci := 7) (r := cq_7) rfl ⟨by decide, "MemoryTransactions$Run", (tb2 38 rfl rfl), Or.inl rfl⟩
theorem lq_12_23 (fz : Bool) (nm : String) : rf_wk (cx0 fz) ocl0 tb0 sp0 str0 (stt0 fz) "MemoryTransactions$Replay" nm (.getfield 79, [(7, 5)]) := wk_gf (ci := 7) (r := cq_7) rfl ⟨by decide, "MemoryTransactions$Run", (tb2 53 rfl rfl), Or.inl rfl⟩
theorem lq_12_24 (fz : Bool) (nm : String) : rf_wk (cx0 fz) ocl0 tb0 sp0 str0 (stt0 fz) "MemoryTransactions$Replay" nm (.invokevirtual 83, [(0, 2), (4, 105)]) := wk_iv (ci := 4) (r := cq_4) rfl (mtq_105 fz) (mo_105 fz) (tb4 145 rfl rfl) (tb4 216 rfl rfl) (tb4 146 rfl rfl)
theorem lq_12_25 (fz : Bool) (nm : String) : rf_wk (cx0 fz) ocl0 tb0 sp0 str0 (stt0 fz) "MemoryTransactions$Replay" nm (.getfield 87, [(7, 1)]) := wk_gf (ci := 7) (r := cq_7) rfl ⟨by decide, "MemoryTransactions$Run", (tb2 41 rfl rfl), Or.inl rfl⟩
theorem lq_12_26 (fz : Bool) (nm : String) : rf_wk (cx0 fz) ocl0 tb0 sp0 str0 (stt0 fz) "MemoryTransactions$Replay" nm (.getfield 90, [(9, 4)]) := wk_gf (ci := 9) (r := cq_9) rfl ⟨by decide, "MemoryTransactions$Journal", (tb2 126 rfl rfl), Or.inl rfl⟩
theorem lq_12_27 (fz : Bool) (nm : String) : rf_wk (cx0 fz) ocl0 tb0 sp0 str0 (stt0 fz) "MemoryTransactions$Replay" nm (.invokevirtual 92, [(0, 4), (10, 120)]) := wk_iv (ci := 10) (r := cq_10) rfl (mtq_120 fz) (mo_120 fz) (tb4 219 rfl rfl) (tb4 217 rfl rfl) (tbm 37 (by decide +kernel))
theorem lq_12_28 (fz : Bool) (nm : String) : rf_wk (cx0 fz) ocl0 tb0 sp0 str0 (stt0 fz) "MemoryTransactions$Replay" nm (.ldc2_w 96, [(1, 18446744073709551614)]) := wk_l2 (tb4 221 rfl rfl)
theorem lq_12_29 (fz : Bool) (nm : String) : rf_wk (cx0 fz) ocl0 tb0 sp0 str0 (stt0 fz) "MemoryTransactions$Replay" nm (.getfield 98, [(7, 3)]) := wk_gf (ci := 7) (r := cq_7) rfl ⟨by decide, "MemoryTransactions$Run", (tb2 48 rfl rfl), Or.inl rfl⟩
theorem lq_12_30 (fz : Bool) (nm : String) : rf_wk (cx0 fz) ocl0 tb0 sp0 str0 (stt0 fz) "MemoryTransactions$Replay" nm (.invokevirtual 39, [(0, 0), (4, 123)]) := wk_iv (ci := 4) (r := cq_4) rfl (mtq_123 fz) (mo_123 fz) (tb4 231 rfl rfl) (tb5 2 rfl rfl) (tb4 232 rfl rfl)
def lk_12 : List (Bool × rf_I) := [(false, (.invokespecial 3, [(10, 0)])), (true, (.putfield 9, [(10, 3)])), (false, (.new 15, [(0, 4)])), (false, (.invokespecial 17, [(0, 0), (0, 5)])), (true, (.putfield 18, [(10, 0)])), (false, (.new 22, [(0, 7)])), (false, (.getfield 18, [(10, 0)])), (false, (.invokespecial 24, [(0, 2), (0, 9)])), (true, (.putfield 27, [(10, 4)])), (false, (.putfield 31, [(10, 1)])), (false, (.putfield 35, [(10, 2)])), (false, (.invokevirtual 42, [(0, 1), (9, 116)])), (false, (.getfield 48, [(9, 3)])), (false, (.getfield 52, [(9, 1)])), (false, (.getfield 35, [(10, 2)])), (false, (.getfield 55, [(9, 6)])), (false, (.invokevirtual 59, [(0, 2), (4, 61)])), (false, (.invokevirtual 63, [(0, 2), (4, 77)])), (false, (.getfield 9, [(10, 3)])), (false, (.getfield 27, [(10, 4)])), (false, (.invokevirtual 67, [(0, 1), (7, 87)])), (false, (.invokevirtual 71, [(0, 0), (7, 90)])), (false, (.getfield 75, [(7, 0)])), (false, (.getfield 79, [(7, 5)])), (false, (.invokevirtual 83, [(0, 2), (4, 105)])), (false, (.getfield 87, [(7, 1)])), (false, (.getfield 90, [(9, 4)])), (false, (.invokevirtual 92, [(0, 4), (10, 120)])), (false, (.ldc2_w 96, [(1, 18446744073709551614)])), (false, (.getfield 98, [(7, 3)])), (false, (.invokevirtual 39, [(0, 0), (4, 123)]))]
set_option maxRecDepth 100000 in
theorem lk_12_ok (fz : Bool) : ∀ e ∈ lk_12, ∀ nm : String, (e.1 = true → nm = "<init>") → rf_wk (cx0 fz) ocl0 tb0 sp0 str0 (stt0 fz) (nmO 12) nm e.2 := List.forall_mem_cons.mpr ⟨(fun nm _ => lq_12_0 fz nm), List.forall_mem_cons.mpr ⟨(fun nm hn => lq_12_1 fz nm (hn rfl)), List.forall_mem_cons.mpr ⟨(fun nm _ => lq_12_2 fz nm), List.forall_mem_cons.mpr ⟨(fun nm _ => lq_12_3 fz nm), List.forall_mem_cons.mpr ⟨(fun nm hn => lq_12_4 fz nm (hn rfl)), List.forall_mem_cons.mpr ⟨(fun nm _ => lq_12_5 fz nm), List.forall_mem_cons.mpr ⟨(fun nm _ => lq_12_6 fz nm), List.forall_mem_cons.mpr ⟨(fun nm _ => lq_12_7 fz nm), List.forall_mem_cons.mpr ⟨(fun nm hn => lq_12_8 fz nm (hn rfl)), List.forall_mem_cons.mpr ⟨(fun nm _ => lq_12_9 fz nm), List.forall_mem_cons.mpr ⟨(fun nm _ => lq_12_10 fz nm), List.forall_mem_cons.mpr ⟨(fun nm _ => lq_12_11 fz nm), List.forall_mem_cons.mpr ⟨(fun nm _ => lq_12_12 fz nm), List.forall_mem_cons.mpr ⟨(fun nm _ => lq_12_13 fz nm), List.forall_mem_cons.mpr ⟨(fun nm _ => lq_12_14 fz nm), List.forall_mem_cons.mpr ⟨(fun nm _ => lq_12_15 fz nm), List.forall_mem_cons.mpr ⟨(fun nm _ => lq_12_16 fz nm), List.forall_mem_cons.mpr ⟨(fun nm _ => lq_12_17 fz nm), List.forall_mem_cons.mpr ⟨(fun nm _ => lq_12_18 fz nm), List.forall_mem_cons.mpr ⟨(fun nm _ => lq_12_19 fz nm), List.forall_mem_cons.mpr ⟨(fun nm _ => lq_12_20 fz nm), List.forall_mem_cons.mpr ⟨(fun nm _ => lq_12_21 fz nm), List.forall_mem_cons.mpr ⟨(fun nm _ => lq_12_22 fz nm), List.forall_mem_cons.mpr ⟨(fun nm _ => lq_12_23 fz nm), List.forall_mem_cons.mpr ⟨(fun nm _ => lq_12_24 fz nm), List.forall_mem_cons.mpr ⟨(fun nm _ => lq_12_25 fz nm), List.forall_mem_cons.mpr ⟨(fun nm _ => lq_12_26 fz nm), List.forall_mem_cons.mpr ⟨(fun nm _ => lq_12_27 fz nm), List.forall_mem_cons.mpr ⟨(fun nm _ => lq_12_28 fz nm), List.forall_mem_cons.mpr ⟨(fun nm _ => lq_12_29 fz nm), List.forall_mem_cons.mpr ⟨(fun nm _ => lq_12_30 fz nm), fun _ h => absurd h List.not_mem_nil⟩⟩⟩⟩⟩⟩⟩⟩⟩⟩⟩⟩⟩⟩⟩⟩⟩⟩⟩⟩⟩⟩⟩⟩⟩⟩⟩⟩⟩⟩⟩
theorem lq_13_0 (fz : Bool) (nm : String) : rf_wk (cx0 fz) ocl0 tb0 sp0 str0 (stt0 fz) "java/lang/String" nm (.getfield 9, [(-1, 0)]) := wk_gfo (r := oq_0) rfl ⟨by decide, "java/lang/String", (tb7 56 rfl rfl), Or.inl rfl⟩
theorem lq_13_1 (fz : Bool) (nm : String) : rf_wk (cx0 fz) ocl0 tb0 sp0 str0 (stt0 fz) "java/lang/String" nm (.invokevirtual 335, [(0, 0), (-1, 26)]) := wk_ivo (r := oq_0) rfl (mtq_26 fz) (mo_26 fz) (tb3 22 rfl rfl) (tb3 21 rfl rfl) (tb3 23 rfl rfl)
theorem lq_13_2 (fz : Bool) (nm : String) : rf_wk (cx0 fz) ocl0 tb0 sp0 str0 (stt0 fz) "java/lang/String" nm (.getstatic 38, [(0, 1)]) := wk_gi (C := "java/lang/String") (n := "COMPACT_STRINGS") (d := "Z") (List.mem_of_getElem? (i := 0) rfl) (tb3 25 rfl rfl)
theorem lq_13_3 (fz : Bool) (nm : String) : rf_wk (cx0 fz) ocl0 tb0 sp0 str0 (stt0 fz) "java/lang/String" nm (.getfield 15, [(-1, 1)]) := wk_gfo (r := oq_0) rfl ⟨by decide, "java/lang/String", (tb7 57 rfl rfl), Or.inl rfl⟩
theorem lq_13_4 (fz : Bool) (nm : String) : rf_wk (cx0 fz) ocl0 tb0 sp0 str0 (stt0 fz) "java/lang/String" nm (.invokevirtual 492, [(0, 0), (-1, 28)]) := wk_ivo (r := oq_0) rfl (mtq_28 fz) (mo_28 fz) (tb3 32 rfl rfl) (tb3 31 rfl rfl) (tb3 33 rfl rfl)
theorem lq_13_5 (fz : Bool) (nm : String) : rf_wk (cx0 fz) ocl0 tb0 sp0 str0 (stt0 fz) "java/lang/String" nm (.invokestatic 495, [(0, 2), (0, 29)]) := wk_st (mtq_29 fz) (mo_29 fz) (tb3 36 rfl rfl) (tb3 35 rfl rfl)
def lk_13 : List (Bool × rf_I) := [(false, (.getfield 9, [(-1, 0)])), (false, (.invokevirtual 335, [(0, 0), (-1, 26)])), (false, (.getstatic 38, [(0, 1)])), (false, (.getfield 15, [(-1, 1)])), (false, (.invokevirtual 492, [(0, 0), (-1, 28)])), (false, (.invokestatic 495, [(0, 2), (0, 29)]))]
set_option maxRecDepth 100000 in
theorem lk_13_ok (fz : Bool) : ∀ e ∈ lk_13, ∀ nm : String, (e.1 = true → nm = "<init>") → rf_wk (cx0 fz) ocl0 tb0 sp0 str0 (stt0 fz) (nmO 13) nm e.2 := List.forall_mem_cons.mpr ⟨(fun nm _ => lq_13_0 fz nm), List.forall_mem_cons.mpr ⟨(fun nm _ => lq_13_1 fz nm), List.forall_mem_cons.mpr ⟨(fun nm _ => lq_13_2 fz nm), List.forall_mem_cons.mpr ⟨(fun nm _ => lq_13_3 fz nm), List.forall_mem_cons.mpr ⟨(fun nm _ => lq_13_4 fz nm), List.forall_mem_cons.mpr ⟨(fun nm _ => lq_13_5 fz nm), fun _ h => absurd h List.not_mem_nil⟩⟩⟩⟩⟩⟩
theorem lq_14_0 (fz : Bool) (nm : String) : rf_wk (cx0 fz) ocl0 tb0 sp0 str0 (stt0 fz) "java/lang/StringLatin1" nm (.invokestatic 9, [(0, 2), (0, 30)]) := wk_st (mtq_30 fz) (mo_30 fz) (tb3 39 rfl rfl) (tb3 38 rfl rfl)
def lk_14 : List (Bool × rf_I) := [(false, (.invokestatic 9, [(0, 2), (0, 30)]))]
set_option maxRecDepth 100000 in
theorem lk_14_ok (fz : Bool) : ∀ e ∈ lk_14, ∀ nm : String, (e.1 = true → nm = "<init>") → rf_wk (cx0 fz) ocl0 tb0 sp0 str0 (stt0 fz) (nmO 14) nm e.2 := List.forall_mem_cons.mpr ⟨(fun nm _ => lq_14_0 fz nm), fun _ h => absurd h List.not_mem_nil⟩
def lk_15 : List (Bool × rf_I) := []
set_option maxRecDepth 100000 in
theorem lk_15_ok (fz : Bool) : ∀ e ∈ lk_15, ∀ nm : String, (e.1 = true → nm = "<init>") → rf_wk (cx0 fz) ocl0 tb0 sp0 str0 (stt0 fz) (nmO 15) nm e.2 := fun _ h => absurd h List.not_mem_nil
def lk_16 : List (Bool × rf_I) := []
set_option maxRecDepth 100000 in
theorem lk_16_ok (fz : Bool) : ∀ e ∈ lk_16, ∀ nm : String, (e.1 = true → nm = "<init>") → rf_wk (cx0 fz) ocl0 tb0 sp0 str0 (stt0 fz) (nmO 16) nm e.2 := fun _ h => absurd h List.not_mem_nil
theorem lq_17_0 (fz : Bool) (nm : String) : rf_wk (cx0 fz) ocl0 tb0 sp0 str0 (stt0 fz) "MemoryTransactionsModel" nm (.invokespecial 1, [(10, 0)]) := wk_10 (tb5 12 rfl rfl) (tb1 27 rfl rfl) (tb1 28 rfl rfl)
theorem lq_17_1 (fz : Bool) (nm : String) : rf_wk (cx0 fz) ocl0 tb0 sp0 str0 (stt0 fz) "MemoryTransactionsModel" nm (.newarray .byte, []) := wk_newa (tb3 169 rfl rfl)
theorem lq_17_2 (fz : Bool) (nm : String) (hn : nm = "<init>") : rf_wk (cx0 fz) ocl0 tb0 sp0 str0 (stt0 fz) "MemoryTransactionsModel" nm (.putfield 7, [(11, 1)]) := wk_pff (ci := 11) (r := cq_11) rfl ⟨by decide, "MemoryTransactionsModel", (tb5 14 rfl rfl), Or.inl rfl⟩ rfl hn rfl
theorem lq_17_3 (fz : Bool) (nm : String) : rf_wk (cx0 fz) ocl0 tb0 sp0 str0 (stt0 fz) "MemoryTransactionsModel" nm (.putfield 13, [(11, 10)]) := wk_pf (ci := 11) (r := cq_11) rfl ⟨by decide, "MemoryTransactionsModel", (tb5 23 rfl rfl), Or.inl rfl⟩ rfl
theorem lq_17_4 (fz : Bool) (nm : String) : rf_wk (cx0 fz) ocl0 tb0 sp0 str0 (stt0 fz) "MemoryTransactionsModel" nm (.newarray .int, []) := wk_newa (tb1 106 rfl rfl)
theorem lq_17_5 (fz : Bool) (nm : String) (hn : nm = "<init>") : rf_wk (cx0 fz) ocl0 tb0 sp0 str0 (stt0 fz) "MemoryTransactionsModel" nm (.putfield 17, [(11, 12)]) := wk_pff (ci := 11) (r := cq_11) rfl ⟨by decide, "MemoryTransactionsModel", (tb5 25 rfl rfl), Or.inl rfl⟩ rfl hn rfl
theorem lq_17_6 (fz : Bool) (nm : String) (hn : nm = "<init>") : rf_wk (cx0 fz) ocl0 tb0 sp0 str0 (stt0 fz) "MemoryTransactionsModel" nm (.putfield 21, [(11, 13)]) := wk_pff (ci := 11) (r := cq_11) rfl ⟨by decide, "MemoryTransactionsModel", (tb5 26 rfl rfl), Or.inl rfl⟩ rfl hn rfl
theorem lq_17_7 (fz : Bool) (nm : String) (hn : nm = "<init>") : rf_wk (cx0 fz) ocl0 tb0 sp0 str0 (stt0 fz) "MemoryTransactionsModel" nm (.putfield 24, [(11, 14)]) := wk_pff (ci := 11) (r := cq_11) rfl ⟨by decide, "MemoryTransactionsModel", (tb5 27 rfl rfl), Or.inl rfl⟩ rfl hn rfl
theorem lq_17_8 (fz : Bool) (nm : String) (hn : nm = "<init>") : rf_wk (cx0 fz) ocl0 tb0 sp0 str0 (stt0 fz) "MemoryTransactionsModel" nm (.putfield 27, [(11, 15)]) := wk_pff (ci := 11) (r := cq_11) rfl ⟨by decide, "MemoryTransactionsModel", (tb5 28 rfl rfl), Or.inl rfl⟩ rfl hn rfl
theorem lq_17_9 (fz : Bool) (nm : String) (hn : nm = "<init>") : rf_wk (cx0 fz) ocl0 tb0 sp0 str0 (stt0 fz) "MemoryTransactionsModel" nm (.putfield 30, [(11, 16)]) := wk_pff (ci := 11) (r := cq_11) rfl ⟨by decide, "MemoryTransactionsModel", (tb5 29 rfl rfl), Or.inl rfl⟩ rfl hn rfl
theorem lq_17_10 (fz : Bool) (nm : String) (hn : nm = "<init>") : rf_wk (cx0 fz) ocl0 tb0 sp0 str0 (stt0 fz) "MemoryTransactionsModel" nm (.putfield 33, [(11, 17)]) := wk_pff (ci := 11) (r := cq_11) rfl ⟨by decide, "MemoryTransactionsModel", (tb5 30 rfl rfl), Or.inl rfl⟩ rfl hn rfl
theorem lq_17_11 (fz : Bool) (nm : String) (hn : nm = "<init>") : rf_wk (cx0 fz) ocl0 tb0 sp0 str0 (stt0 fz) "MemoryTransactionsModel" nm (.putfield 36, [(11, 18)]) := wk_pff (ci := 11) (r := cq_11) rfl ⟨by decide, "MemoryTransactionsModel", (tb5 31 rfl rfl), Or.inl rfl⟩ rfl hn rfl
theorem lq_17_12 (fz : Bool) (nm : String) (hn : nm = "<init>") : rf_wk (cx0 fz) ocl0 tb0 sp0 str0 (stt0 fz) "MemoryTransactionsModel" nm (.putfield 39, [(11, 19)]) := wk_pff (ci := 11) (r := cq_11) rfl ⟨by decide, "MemoryTransactionsModel", (tb5 32 rfl rfl), Or.inl rfl⟩ rfl hn rfl
theorem lq_17_13 (fz : Bool) (nm : String) (hn : nm = "<init>") : rf_wk (cx0 fz) ocl0 tb0 sp0 str0 (stt0 fz) "MemoryTransactionsModel" nm (.putfield 42, [(11, 20)]) := wk_pff (ci := 11) (r := cq_11) rfl ⟨by decide, "MemoryTransactionsModel", (tb5 33 rfl rfl), Or.inl rfl⟩ rfl hn rfl
theorem lq_17_14 (fz : Bool) (nm : String) (hn : nm = "<init>") : rf_wk (cx0 fz) ocl0 tb0 sp0 str0 (stt0 fz) "MemoryTransactionsModel" nm (.putfield 45, [(11, 21)]) := wk_pff (ci := 11) (r := cq_11) rfl ⟨by decide, "MemoryTransactionsModel", (tb5 34 rfl rfl), Or.inl rfl⟩ rfl hn rfl
theorem lq_17_15 (fz : Bool) (nm : String) (hn : nm = "<init>") : rf_wk (cx0 fz) ocl0 tb0 sp0 str0 (stt0 fz) "MemoryTransactionsModel" nm (.putfield 48, [(11, 22)]) := wk_pff (ci := 11) (r := cq_11) rfl ⟨by decide, "MemoryTransactionsModel", (tb5 35 rfl rfl), Or.inl rfl⟩ rfl hn rfl
theorem lq_17_16 (fz : Bool) (nm : String) (hn : nm = "<init>") : rf_wk (cx0 fz) ocl0 tb0 sp0 str0 (stt0 fz) "MemoryTransactionsModel" nm (.putfield 51, [(11, 23)]) := wk_pff (ci := 11) (r := cq_11) rfl ⟨by decide, "MemoryTransactionsModel", (tb5 36 rfl rfl), Or.inl rfl⟩ rfl hn rfl
theorem lq_17_17 (fz : Bool) (nm : String) (hn : nm = "<init>") : rf_wk (cx0 fz) ocl0 tb0 sp0 str0 (stt0 fz) "MemoryTransactionsModel" nm (.putfield 54, [(11, 24)]) := wk_pff (ci := 11) (r := cq_11) rfl ⟨by decide, "MemoryTransactionsModel", (tb5 37 rfl rfl), Or.inl rfl⟩ rfl hn rfl
theorem lq_17_18 (fz : Bool) (nm : String) (hn : nm = "<init>") : rf_wk (cx0 fz) ocl0 tb0 sp0 str0 (stt0 fz) "MemoryTransactionsModel" nm (.putfield 57, [(11, 25)]) := wk_pff (ci := 11) (r := cq_11) rfl ⟨by decide, "MemoryTransactionsModel", (tb5 38 rfl rfl), Or.inl rfl⟩ rfl hn rfl
theorem lq_17_19 (fz : Bool) (nm : String) (hn : nm = "<init>") : rf_wk (cx0 fz) ocl0 tb0 sp0 str0 (stt0 fz) "MemoryTransactionsModel" nm (.putfield 60, [(11, 26)]) := wk_pff (ci := 11) (r := cq_11) rfl ⟨by decide, "MemoryTransactionsModel", (tb5 39 rfl rfl), Or.inl rfl⟩ rfl hn rfl
theorem lq_17_20 (fz : Bool) (nm : String) : rf_wk (cx0 fz) ocl0 tb0 sp0 str0 (stt0 fz) "MemoryTransactionsModel" nm (.newarray .long, []) := wk_newa (tb1 186 rfl rfl)
theorem lq_17_21 (fz : Bool) (nm : String) (hn : nm = "<init>") : rf_wk (cx0 fz) ocl0 tb0 sp0 str0 (stt0 fz) "MemoryTransactionsModel" nm (.putfield 63, [(11, 27)]) := wk_pff (ci := 11) (r := cq_11) rfl ⟨by decide, "MemoryTransactionsModel", (tb5 40 rfl rfl), Or.inl rfl⟩ rfl hn rfl
theorem lq_17_22 (fz : Bool) (nm : String) (hn : nm = "<init>") : rf_wk (cx0 fz) ocl0 tb0 sp0 str0 (stt0 fz) "MemoryTransactionsModel" nm (.putfield 67, [(11, 29)]) := wk_pff (ci := 11) (r := cq_11) rfl ⟨by decide, "MemoryTransactionsModel", (tb5 42 rfl rfl), Or.inl rfl⟩ rfl hn rfl
theorem lq_17_23 (fz : Bool) (nm : String) : rf_wk (cx0 fz) ocl0 tb0 sp0 str0 (stt0 fz) "MemoryTransactionsModel" nm (.newarray .boolean, []) := wk_newa (tb6 2 rfl rfl)
theorem lq_17_24 (fz : Bool) (nm : String) (hn : nm = "<init>") : rf_wk (cx0 fz) ocl0 tb0 sp0 str0 (stt0 fz) "MemoryTransactionsModel" nm (.putfield 70, [(11, 32)]) := wk_pff (ci := 11) (r := cq_11) rfl ⟨by decide, "MemoryTransactionsModel", (tb5 45 rfl rfl), Or.inl rfl⟩ rfl hn rfl
theorem lq_17_25 (fz : Bool) (nm : String) (hn : nm = "<init>") : rf_wk (cx0 fz) ocl0 tb0 sp0 str0 (stt0 fz) "MemoryTransactionsModel" nm (.putfield 74, [(11, 34)]) := wk_pff (ci := 11) (r := cq_11) rfl ⟨by decide, "MemoryTransactionsModel", (tb5 47 rfl rfl), Or.inl rfl⟩ rfl hn rfl
theorem lq_17_26 (fz : Bool) (nm : String) (hn : nm = "<init>") : rf_wk (cx0 fz) ocl0 tb0 sp0 str0 (stt0 fz) "MemoryTransactionsModel" nm (.putfield 77, [(11, 35)]) := wk_pff (ci := 11) (r := cq_11) rfl ⟨by decide, "MemoryTransactionsModel", (tb5 48 rfl rfl), Or.inl rfl⟩ rfl hn rfl
theorem lq_17_27 (fz : Bool) (nm : String) (hn : nm = "<init>") : rf_wk (cx0 fz) ocl0 tb0 sp0 str0 (stt0 fz) "MemoryTransactionsModel" nm (.putfield 80, [(11, 36)]) := wk_pff (ci := 11) (r := cq_11) rfl ⟨by decide, "MemoryTransactionsModel", (tb5 49 rfl rfl), Or.inl rfl⟩ rfl hn rfl
theorem lq_17_28 (fz : Bool) (nm : String) (hn : nm = "<init>") : rf_wk (cx0 fz) ocl0 tb0 sp0 str0 (stt0 fz) "MemoryTransactionsModel" nm (.putfield 83, [(11, 38)]) := wk_pff (ci := 11) (r := cq_11) rfl ⟨by decide, "MemoryTransactionsModel", (tb5 51 rfl rfl), Or.inl rfl⟩ rfl hn rfl
theorem lq_17_29 (fz : Bool) (nm : String) (hn : nm = "<init>") : rf_wk (cx0 fz) ocl0 tb0 sp0 str0 (stt0 fz) "MemoryTransactionsModel" nm (.putfield 86, [(11, 39)]) := wk_pff (ci := 11) (r := cq_11) rfl ⟨by decide, "MemoryTransactionsModel", (tb5 52 rfl rfl), Or.inl rfl⟩ rfl hn rfl
theorem lq_17_30 (fz : Bool) (nm : String) (hn : nm = "<init>") : rf_wk (cx0 fz) ocl0 tb0 sp0 str0 (stt0 fz) "MemoryTransactionsModel" nm (.putfield 89, [(11, 40)]) := wk_pff (ci := 11) (r := cq_11) rfl ⟨by decide, "MemoryTransactionsModel", (tb5 53 rfl rfl), Or.inl rfl⟩ rfl hn rfl
theorem lq_17_31 (fz : Bool) (nm : String) (hn : nm = "<init>") : rf_wk (cx0 fz) ocl0 tb0 sp0 str0 (stt0 fz) "MemoryTransactionsModel" nm (.putfield 92, [(11, 41)]) := wk_pff (ci := 11) (r := cq_11) rfl ⟨by decide, "MemoryTransactionsModel", (tb5 54 rfl rfl), Or.inl rfl⟩ rfl hn rfl
theorem lq_17_32 (fz : Bool) (nm : String) (hn : nm = "<init>") : rf_wk (cx0 fz) ocl0 tb0 sp0 str0 (stt0 fz) "MemoryTransactionsModel" nm (.putfield 95, [(11, 43)]) := wk_pff (ci := 11) (r := cq_11) rfl ⟨by decide, "MemoryTransactionsModel", (tb5 56 rfl rfl), Or.inl rfl⟩ rfl hn rfl
theorem lq_17_33 (fz : Bool) (nm : String) (hn : nm = "<init>") : rf_wk (cx0 fz) ocl0 tb0 sp0 str0 (stt0 fz) "MemoryTransactionsModel" nm (.putfield 98, [(11, 44)]) := wk_pff (ci := 11) (r := cq_11) rfl ⟨by decide, "MemoryTransactionsModel", (tb5 57 rfl rfl), Or.inl rfl⟩ rfl hn rfl
theorem lq_17_34 (fz : Bool) (nm : String) (hn : nm = "<init>") : rf_wk (cx0 fz) ocl0 tb0 sp0 str0 (stt0 fz) "MemoryTransactionsModel" nm (.putfield 101, [(11, 45)]) := wk_pff (ci := 11) (r := cq_11) rfl ⟨by decide, "MemoryTransactionsModel", (tb5 58 rfl rfl), Or.inl rfl⟩ rfl hn rfl
theorem lq_17_35 (fz : Bool) (nm : String) (hn : nm = "<init>") : rf_wk (cx0 fz) ocl0 tb0 sp0 str0 (stt0 fz) "MemoryTransactionsModel" nm (.putfield 104, [(11, 46)]) := wk_pff (ci := 11) (r := cq_11) rfl ⟨by decide, "MemoryTransactionsModel", (tb5 59 rfl rfl), Or.inl rfl⟩ rfl hn rfl
theorem lq_17_36 (fz : Bool) (nm : String) (hn : nm = "<init>") : rf_wk (cx0 fz) ocl0 tb0 sp0 str0 (stt0 fz) "MemoryTransactionsModel" nm (.putfield 107, [(11, 47)]) := wk_pff (ci := 11) (r := cq_11) rfl ⟨by decide, "MemoryTransactionsModel", (tb5 60 rfl rfl), Or.inl rfl⟩ rfl hn rfl
theorem lq_17_37 (fz : Bool) (nm : String) (hn : nm = "<init>") : rf_wk (cx0 fz) ocl0 tb0 sp0 str0 (stt0 fz) "MemoryTransactionsModel" nm (.putfield 110, [(11, 48)]) := wk_pff (ci := 11) (r := cq_11) rfl ⟨by decide, "MemoryTransactionsModel", (tb5 61 rfl rfl), Or.inl rfl⟩ rfl hn rfl
theorem lq_17_38 (fz : Bool) (nm : String) (hn : nm = "<init>") : rf_wk (cx0 fz) ocl0 tb0 sp0 str0 (stt0 fz) "MemoryTransactionsModel" nm (.putfield 113, [(11, 49)]) := wk_pff (ci := 11) (r := cq_11) rfl ⟨by decide, "MemoryTransactionsModel", (tb5 62 rfl rfl), Or.inl rfl⟩ rfl hn rfl
theorem lq_17_39 (fz : Bool) (nm : String) (hn : nm = "<init>") : rf_wk (cx0 fz) ocl0 tb0 sp0 str0 (stt0 fz) "MemoryTransactionsModel" nm (.putfield 116, [(11, 50)]) := wk_pff (ci := 11) (r := cq_11) rfl ⟨by decide, "MemoryTransactionsModel", (tb5 63 rfl rfl), Or.inl rfl⟩ rfl hn rfl
theorem lq_17_40 (fz : Bool) (nm : String) (hn : nm = "<init>") : rf_wk (cx0 fz) ocl0 tb0 sp0 str0 (stt0 fz) "MemoryTransactionsModel" nm (.putfield 119, [(11, 51)]) := wk_pff (ci := 11) (r := cq_11) rfl ⟨by decide, "MemoryTransactionsModel", (tb5 64 rfl rfl), Or.inl rfl⟩ rfl hn rfl
theorem lq_17_41 (fz : Bool) (nm : String) (hn : nm = "<init>") : rf_wk (cx0 fz) ocl0 tb0 sp0 str0 (stt0 fz) "MemoryTransactionsModel" nm (.putfield 122, [(11, 53)]) := wk_pff (ci := 11) (r := cq_11) rfl ⟨by decide, "MemoryTransactionsModel", (tb5 66 rfl rfl), Or.inl rfl⟩ rfl hn rfl
theorem lq_17_42 (fz : Bool) (nm : String) (hn : nm = "<init>") : rf_wk (cx0 fz) ocl0 tb0 sp0 str0 (stt0 fz) "MemoryTransactionsModel" nm (.putfield 125, [(11, 54)]) := wk_pff (ci := 11) (r := cq_11) rfl ⟨by decide, "MemoryTransactionsModel", (tb5 67 rfl rfl), Or.inl rfl⟩ rfl hn rfl
theorem lq_17_43 (fz : Bool) (nm : String) (hn : nm = "<init>") : rf_wk (cx0 fz) ocl0 tb0 sp0 str0 (stt0 fz) "MemoryTransactionsModel" nm (.putfield 128, [(11, 56)]) := wk_pff (ci := 11) (r := cq_11) rfl ⟨by decide, "MemoryTransactionsModel", (tb5 69 rfl rfl), Or.inl rfl⟩ rfl hn rfl
theorem lq_17_44 (fz : Bool) (nm : String) (hn : nm = "<init>") : rf_wk (cx0 fz) ocl0 tb0 sp0 str0 (stt0 fz) "MemoryTransactionsModel" nm (.putfield 131, [(11, 57)]) := wk_pff (ci := 11) (r := cq_11) rfl ⟨by decide, "MemoryTransactionsModel", (tb5 70 rfl rfl), Or.inl rfl⟩ rfl hn rfl
theorem lq_17_45 (fz : Bool) (nm : String) (hn : nm = "<init>") : rf_wk (cx0 fz) ocl0 tb0 sp0 str0 (stt0 fz) "MemoryTransactionsModel" nm (.putfield 134, [(11, 59)]) := wk_pff (ci := 11) (r := cq_11) rfl ⟨by decide, "MemoryTransactionsModel", (tb5 72 rfl rfl), Or.inl rfl⟩ rfl hn rfl
theorem lq_17_46 (fz : Bool) (nm : String) (hn : nm = "<init>") : rf_wk (cx0 fz) ocl0 tb0 sp0 str0 (stt0 fz) "MemoryTransactionsModel" nm (.putfield 137, [(11, 61)]) := wk_pff (ci := 11) (r := cq_11) rfl ⟨by decide, "MemoryTransactionsModel", (tb5 74 rfl rfl), Or.inl rfl⟩ rfl hn rfl
theorem lq_17_47 (fz : Bool) (nm : String) (hn : nm = "<init>") : rf_wk (cx0 fz) ocl0 tb0 sp0 str0 (stt0 fz) "MemoryTransactionsModel" nm (.putfield 140, [(11, 62)]) := wk_pff (ci := 11) (r := cq_11) rfl ⟨by decide, "MemoryTransactionsModel", (tb5 75 rfl rfl), Or.inl rfl⟩ rfl hn rfl
theorem lq_17_48 (fz : Bool) (nm : String) (hn : nm = "<init>") : rf_wk (cx0 fz) ocl0 tb0 sp0 str0 (stt0 fz) "MemoryTransactionsModel" nm (.putfield 143, [(11, 63)]) := wk_pff (ci := 11) (r := cq_11) rfl ⟨by decide, "MemoryTransactionsModel", (tb5 76 rfl rfl), Or.inl rfl⟩ rfl hn rfl
theorem lq_17_49 (fz : Bool) (nm : String) (hn : nm = "<init>") : rf_wk (cx0 fz) ocl0 tb0 sp0 str0 (stt0 fz) "MemoryTransactionsModel" nm (.putfield 146, [(11, 64)]) := wk_pff (ci := 11) (r := cq_11) rfl ⟨by decide, "MemoryTransactionsModel", (tb5 77 rfl rfl), Or.inl rfl⟩ rfl hn rfl
theorem lq_17_50 (fz : Bool) (nm : String) (hn : nm = "<init>") : rf_wk (cx0 fz) ocl0 tb0 sp0 str0 (stt0 fz) "MemoryTransactionsModel" nm (.putfield 149, [(11, 67)]) := wk_pff (ci := 11) (r := cq_11) rfl ⟨by decide, "MemoryTransactionsModel", (tb5 80 rfl rfl), Or.inl rfl⟩ rfl hn rfl
theorem lq_17_51 (fz : Bool) (nm : String) (hn : nm = "<init>") : rf_wk (cx0 fz) ocl0 tb0 sp0 str0 (stt0 fz) "MemoryTransactionsModel" nm (.putfield 152, [(11, 68)]) := wk_pff (ci := 11) (r := cq_11) rfl ⟨by decide, "MemoryTransactionsModel", (tb5 81 rfl rfl), Or.inl rfl⟩ rfl hn rfl
theorem lq_17_52 (fz : Bool) (nm : String) (hn : nm = "<init>") : rf_wk (cx0 fz) ocl0 tb0 sp0 str0 (stt0 fz) "MemoryTransactionsModel" nm (.putfield 155, [(11, 70)]) := wk_pff (ci := 11) (r := cq_11) rfl ⟨by decide, "MemoryTransactionsModel", (tb5 83 rfl rfl), Or.inl rfl⟩ rfl hn rfl
theorem lq_17_53 (fz : Bool) (nm : String) (hn : nm = "<init>") : rf_wk (cx0 fz) ocl0 tb0 sp0 str0 (stt0 fz) "MemoryTransactionsModel" nm (.putfield 158, [(11, 71)]) := wk_pff (ci := 11) (r := cq_11) rfl ⟨by decide, "MemoryTransactionsModel", (tb5 84 rfl rfl), Or.inl rfl⟩ rfl hn rfl
theorem lq_17_54 (fz : Bool) (nm : String) (hn : nm = "<init>") : rf_wk (cx0 fz) ocl0 tb0 sp0 str0 (stt0 fz) "MemoryTransactionsModel" nm (.putfield 161, [(11, 72)]) := wk_pff (ci := 11) (r := cq_11) rfl ⟨by decide, "MemoryTransactionsModel", (tb5 85 rfl rfl), Or.inl rfl⟩ rfl hn rfl
theorem lq_17_55 (fz : Bool) (nm : String) (hn : nm = "<init>") : rf_wk (cx0 fz) ocl0 tb0 sp0 str0 (stt0 fz) "MemoryTransactionsModel" nm (.putfield 164, [(11, 73)]) := wk_pff (ci := 11) (r := cq_11) rfl ⟨by decide, "MemoryTransactionsModel", (tb5 86 rfl rfl), Or.inl rfl⟩ rfl hn rfl
theorem lq_17_56 (fz : Bool) (nm : String) (hn : nm = "<init>") : rf_wk (cx0 fz) ocl0 tb0 sp0 str0 (stt0 fz) "MemoryTransactionsModel" nm (.putfield 167, [(11, 74)]) := wk_pff (ci := 11) (r := cq_11) rfl ⟨by decide, "MemoryTransactionsModel", (tb5 87 rfl rfl), Or.inl rfl⟩ rfl hn rfl
theorem lq_17_57 (fz : Bool) (nm : String) (hn : nm = "<init>") : rf_wk (cx0 fz) ocl0 tb0 sp0 str0 (stt0 fz) "MemoryTransactionsModel" nm (.putfield 170, [(11, 75)]) := wk_pff (ci := 11) (r := cq_11) rfl ⟨by decide, "MemoryTransactionsModel", (tb5 88 rfl rfl), Or.inl rfl⟩ rfl hn rfl
theorem lq_17_58 (fz : Bool) (nm : String) : rf_wk (cx0 fz) ocl0 tb0 sp0 str0 (stt0 fz) "MemoryTransactionsModel" nm (.putfield 173, [(11, 0)]) := wk_pf (ci := 11) (r := cq_11) rfl ⟨by decide, "MemoryTransactionsModel", (tb5 13 rfl rfl), Or.inl rfl⟩ rfl
theorem lq_17_59 (fz : Bool) (nm : String) : rf_wk (cx0 fz) ocl0 tb0 sp0 str0 (stt0 fz) "MemoryTransactionsModel" nm (.getfield 176, [(11, 2)]) := wk_gf (ci := 11) (r := cq_11) rfl ⟨by decide, "MemoryTransactionsModel", (tb5 15 rfl rfl), Or.inl rfl⟩
theorem lq_17_60 (fz : Bool) (nm : String) : rf_wk (cx0 fz) ocl0 tb0 sp0 str0 (stt0 fz) "MemoryTransactionsModel" nm (.getfield 7, [(11, 1)]) := wk_gf (ci := 11) (r := cq_11) rfl ⟨by decide, "MemoryTransactionsModel", (tb5 14 rfl rfl), Or.inl rfl⟩
theorem lq_17_61 (fz : Bool) (nm : String) : rf_wk (cx0 fz) ocl0 tb0 sp0 str0 (stt0 fz) "MemoryTransactionsModel" nm (.putfield 176, [(11, 2)]) := wk_pf (ci := 11) (r := cq_11) rfl ⟨by decide, "MemoryTransactionsModel", (tb5 15 rfl rfl), Or.inl rfl⟩ rfl
theorem lq_17_62 (fz : Bool) (nm : String) : rf_wk (cx0 fz) ocl0 tb0 sp0 str0 (stt0 fz) "MemoryTransactionsModel" nm (.getfield 310, [(11, 11)]) := wk_gf (ci := 11) (r := cq_11) rfl ⟨by decide, "MemoryTransactionsModel", (tb5 24 rfl rfl), Or.inl rfl⟩
theorem lq_17_63 (fz : Bool) (nm : String) : rf_wk (cx0 fz) ocl0 tb0 sp0 str0 (stt0 fz) "MemoryTransactionsModel" nm (.putfield 253, [(11, 28)]) := wk_pf (ci := 11) (r := cq_11) rfl ⟨by decide, "MemoryTransactionsModel", (tb5 41 rfl rfl), Or.inl rfl⟩ rfl
theorem lq_17_64 (fz : Bool) (nm : String) : rf_wk (cx0 fz) ocl0 tb0 sp0 str0 (stt0 fz) "MemoryTransactionsModel" nm (.getfield 17, [(11, 12)]) := wk_gf (ci := 11) (r := cq_11) rfl ⟨by decide, "MemoryTransactionsModel", (tb5 25 rfl rfl), Or.inl rfl⟩
theorem lq_17_65 (fz : Bool) (nm : String) : rf_wk (cx0 fz) ocl0 tb0 sp0 str0 (stt0 fz) "MemoryTransactionsModel" nm (.getfield 253, [(11, 28)]) := wk_gf (ci := 11) (r := cq_11) rfl ⟨by decide, "MemoryTransactionsModel", (tb5 41 rfl rfl), Or.inl rfl⟩
theorem lq_17_66 (fz : Bool) (nm : String) : rf_wk (cx0 fz) ocl0 tb0 sp0 str0 (stt0 fz) "MemoryTransactionsModel" nm (.getfield 21, [(11, 13)]) := wk_gf (ci := 11) (r := cq_11) rfl ⟨by decide, "MemoryTransactionsModel", (tb5 26 rfl rfl), Or.inl rfl⟩
theorem lq_17_67 (fz : Bool) (nm : String) : rf_wk (cx0 fz) ocl0 tb0 sp0 str0 (stt0 fz) "MemoryTransactionsModel" nm (.getfield 24, [(11, 14)]) := wk_gf (ci := 11) (r := cq_11) rfl ⟨by decide, "MemoryTransactionsModel", (tb5 27 rfl rfl), Or.inl rfl⟩
theorem lq_17_68 (fz : Bool) (nm : String) : rf_wk (cx0 fz) ocl0 tb0 sp0 str0 (stt0 fz) "MemoryTransactionsModel" nm (.getfield 30, [(11, 16)]) := wk_gf (ci := 11) (r := cq_11) rfl ⟨by decide, "MemoryTransactionsModel", (tb5 29 rfl rfl), Or.inl rfl⟩
theorem lq_17_69 (fz : Bool) (nm : String) : rf_wk (cx0 fz) ocl0 tb0 sp0 str0 (stt0 fz) "MemoryTransactionsModel" nm (.putfield 199, [(11, 3)]) := wk_pf (ci := 11) (r := cq_11) rfl ⟨by decide, "MemoryTransactionsModel", (tb5 16 rfl rfl), Or.inl rfl⟩ rfl
theorem lq_17_70 (fz : Bool) (nm : String) : rf_wk (cx0 fz) ocl0 tb0 sp0 str0 (stt0 fz) "MemoryTransactionsModel" nm (.putfield 240, [(11, 9)]) := wk_pf (ci := 11) (r := cq_11) rfl ⟨by decide, "MemoryTransactionsModel", (tb5 22 rfl rfl), Or.inl rfl⟩ rfl
theorem lq_17_71 (fz : Bool) (nm : String) : rf_wk (cx0 fz) ocl0 tb0 sp0 str0 (stt0 fz) "MemoryTransactionsModel" nm (.invokevirtual 313, [(0, 0), (11, 131)]) := wk_iv (ci := 11) (r := cq_11) rfl (mtq_131 fz) (mo_131 fz) (tb6 17 rfl rfl) (tb6 15 rfl rfl) (tbm 38 (by decide +kernel))
theorem lq_17_72 (fz : Bool) (nm : String) : rf_wk (cx0 fz) ocl0 tb0 sp0 str0 (stt0 fz) "MemoryTransactionsModel" nm (.getfield 240, [(11, 9)]) := wk_gf (ci := 11) (r := cq_11) rfl ⟨by decide, "MemoryTransactionsModel", (tb5 22 rfl rfl), Or.inl rfl⟩
theorem lq_17_73 (fz : Bool) (nm : String) : rf_wk (cx0 fz) ocl0 tb0 sp0 str0 (stt0 fz) "MemoryTransactionsModel" nm (.putfield 310, [(11, 11)]) := wk_pf (ci := 11) (r := cq_11) rfl ⟨by decide, "MemoryTransactionsModel", (tb5 24 rfl rfl), Or.inl rfl⟩ rfl
theorem lq_17_74 (fz : Bool) (nm : String) : rf_wk (cx0 fz) ocl0 tb0 sp0 str0 (stt0 fz) "MemoryTransactionsModel" nm (.putfield 283, [(11, 37)]) := wk_pf (ci := 11) (r := cq_11) rfl ⟨by decide, "MemoryTransactionsModel", (tb5 50 rfl rfl), Or.inl rfl⟩ rfl
theorem lq_17_75 (fz : Bool) (nm : String) : rf_wk (cx0 fz) ocl0 tb0 sp0 str0 (stt0 fz) "MemoryTransactionsModel" nm (.getfield 74, [(11, 34)]) := wk_gf (ci := 11) (r := cq_11) rfl ⟨by decide, "MemoryTransactionsModel", (tb5 47 rfl rfl), Or.inl rfl⟩
theorem lq_17_76 (fz : Bool) (nm : String) : rf_wk (cx0 fz) ocl0 tb0 sp0 str0 (stt0 fz) "MemoryTransactionsModel" nm (.getfield 77, [(11, 35)]) := wk_gf (ci := 11) (r := cq_11) rfl ⟨by decide, "MemoryTransactionsModel", (tb5 48 rfl rfl), Or.inl rfl⟩
theorem lq_17_77 (fz : Bool) (nm : String) : rf_wk (cx0 fz) ocl0 tb0 sp0 str0 (stt0 fz) "MemoryTransactionsModel" nm (.getfield 80, [(11, 36)]) := wk_gf (ci := 11) (r := cq_11) rfl ⟨by decide, "MemoryTransactionsModel", (tb5 49 rfl rfl), Or.inl rfl⟩
theorem lq_17_78 (fz : Bool) (nm : String) : rf_wk (cx0 fz) ocl0 tb0 sp0 str0 (stt0 fz) "MemoryTransactionsModel" nm (.getfield 27, [(11, 15)]) := wk_gf (ci := 11) (r := cq_11) rfl ⟨by decide, "MemoryTransactionsModel", (tb5 28 rfl rfl), Or.inl rfl⟩
theorem lq_17_79 (fz : Bool) (nm : String) : rf_wk (cx0 fz) ocl0 tb0 sp0 str0 (stt0 fz) "MemoryTransactionsModel" nm (.invokevirtual 250, [(0, 0), (11, 132)]) := wk_iv (ci := 11) (r := cq_11) rfl (mtq_132 fz) (mo_132 fz) (tb6 21 rfl rfl) (tb6 19 rfl rfl) (tbm 39 (by decide +kernel))
theorem lq_17_80 (fz : Bool) (nm : String) : rf_wk (cx0 fz) ocl0 tb0 sp0 str0 (stt0 fz) "MemoryTransactionsModel" nm (.getfield 209, [(11, 4)]) := wk_gf (ci := 11) (r := cq_11) rfl ⟨by decide, "MemoryTransactionsModel", (tb5 17 rfl rfl), Or.inl rfl⟩
theorem lq_17_81 (fz : Bool) (nm : String) : rf_wk (cx0 fz) ocl0 tb0 sp0 str0 (stt0 fz) "MemoryTransactionsModel" nm (.getfield 283, [(11, 37)]) := wk_gf (ci := 11) (r := cq_11) rfl ⟨by decide, "MemoryTransactionsModel", (tb5 50 rfl rfl), Or.inl rfl⟩
theorem lq_17_82 (fz : Bool) (nm : String) : rf_wk (cx0 fz) ocl0 tb0 sp0 str0 (stt0 fz) "MemoryTransactionsModel" nm (.invokevirtual 244, [(0, 1), (11, 138)]) := wk_iv (ci := 11) (r := cq_11) rfl (mtq_138 fz) (mo_138 fz) (tb6 53 rfl rfl) (tb6 51 rfl rfl) (tbm 41 (by decide +kernel))
theorem lq_17_83 (fz : Bool) (nm : String) : rf_wk (cx0 fz) ocl0 tb0 sp0 str0 (stt0 fz) "MemoryTransactionsModel" nm (.invokevirtual 247, [(0, 0), (11, 139)]) := wk_iv (ci := 11) (r := cq_11) rfl (mtq_139 fz) (mo_139 fz) (tb6 57 rfl rfl) (tb6 55 rfl rfl) (tbm 42 (by decide +kernel))
theorem lq_17_84 (fz : Bool) (nm : String) : rf_wk (cx0 fz) ocl0 tb0 sp0 str0 (stt0 fz) "MemoryTransactionsModel" nm (.invokevirtual 286, [(0, 0), (11, 140)]) := wk_iv (ci := 11) (r := cq_11) rfl (mtq_140 fz) (mo_140 fz) (tb6 61 rfl rfl) (tb6 59 rfl rfl) (tbm 43 (by decide +kernel))
theorem lq_17_85 (fz : Bool) (nm : String) : rf_wk (cx0 fz) ocl0 tb0 sp0 str0 (stt0 fz) "MemoryTransactionsModel" nm (.invokevirtual 289, [(0, 0), (11, 143)]) := wk_iv (ci := 11) (r := cq_11) rfl (mtq_143 fz) (mo_143 fz) (tb6 73 rfl rfl) (tb6 71 rfl rfl) (tbm 46 (by decide +kernel))
theorem lq_17_86 (fz : Bool) (nm : String) : rf_wk (cx0 fz) ocl0 tb0 sp0 str0 (stt0 fz) "MemoryTransactionsModel" nm (.getfield 199, [(11, 3)]) := wk_gf (ci := 11) (r := cq_11) rfl ⟨by decide, "MemoryTransactionsModel", (tb5 16 rfl rfl), Or.inl rfl⟩
theorem lq_17_87 (fz : Bool) (nm : String) : rf_wk (cx0 fz) ocl0 tb0 sp0 str0 (stt0 fz) "MemoryTransactionsModel" nm (.invokevirtual 202, [(0, 1), (11, 133)]) := wk_iv (ci := 11) (r := cq_11) rfl (mtq_133 fz) (mo_133 fz) (tb6 25 rfl rfl) (tb6 23 rfl rfl) (tbm 40 (by decide +kernel))
theorem lq_17_88 (fz : Bool) (nm : String) : rf_wk (cx0 fz) ocl0 tb0 sp0 str0 (stt0 fz) "MemoryTransactionsModel" nm (.putfield 206, [(11, 5)]) := wk_pf (ci := 11) (r := cq_11) rfl ⟨by decide, "MemoryTransactionsModel", (tb5 18 rfl rfl), Or.inl rfl⟩ rfl
theorem lq_17_89 (fz : Bool) (nm : String) : rf_wk (cx0 fz) ocl0 tb0 sp0 str0 (stt0 fz) "MemoryTransactionsModel" nm (.putfield 209, [(11, 4)]) := wk_pf (ci := 11) (r := cq_11) rfl ⟨by decide, "MemoryTransactionsModel", (tb5 17 rfl rfl), Or.inl rfl⟩ rfl
theorem lq_17_90 (fz : Bool) (nm : String) : rf_wk (cx0 fz) ocl0 tb0 sp0 str0 (stt0 fz) "MemoryTransactionsModel" nm (.invokestatic 212, [(0, 1), (0, 134)]) := wk_st (mtq_134 fz) (mo_134 fz) (tb6 28 rfl rfl) (tb6 27 rfl rfl)
theorem lq_17_91 (fz : Bool) (nm : String) : rf_wk (cx0 fz) ocl0 tb0 sp0 str0 (stt0 fz) "MemoryTransactionsModel" nm (.putfield 216, [(11, 6)]) := wk_pf (ci := 11) (r := cq_11) rfl ⟨by decide, "MemoryTransactionsModel", (tb5 19 rfl rfl), Or.inl rfl⟩ rfl
theorem lq_17_92 (fz : Bool) (nm : String) : rf_wk (cx0 fz) ocl0 tb0 sp0 str0 (stt0 fz) "MemoryTransactionsModel" nm (.invokestatic 219, [(0, 1), (0, 135)]) := wk_st (mtq_135 fz) (mo_135 fz) (tb6 31 rfl rfl) (tb6 30 rfl rfl)
theorem lq_17_93 (fz : Bool) (nm : String) : rf_wk (cx0 fz) ocl0 tb0 sp0 str0 (stt0 fz) "MemoryTransactionsModel" nm (.invokestatic 223, [(0, 1), (0, 136)]) := wk_st (mtq_136 fz) (mo_136 fz) (tb6 44 rfl rfl) (tb6 43 rfl rfl)
theorem lq_17_94 (fz : Bool) (nm : String) : rf_wk (cx0 fz) ocl0 tb0 sp0 str0 (stt0 fz) "MemoryTransactionsModel" nm (.putfield 226, [(11, 7)]) := wk_pf (ci := 11) (r := cq_11) rfl ⟨by decide, "MemoryTransactionsModel", (tb5 20 rfl rfl), Or.inl rfl⟩ rfl
theorem lq_17_95 (fz : Bool) (nm : String) : rf_wk (cx0 fz) ocl0 tb0 sp0 str0 (stt0 fz) "MemoryTransactionsModel" nm (.ldc2_w 230, [(1, 10)]) := wk_l2 (tb6 46 rfl rfl)
theorem lq_17_96 (fz : Bool) (nm : String) : rf_wk (cx0 fz) ocl0 tb0 sp0 str0 (stt0 fz) "MemoryTransactionsModel" nm (.getfield 226, [(11, 7)]) := wk_gf (ci := 11) (r := cq_11) rfl ⟨by decide, "MemoryTransactionsModel", (tb5 20 rfl rfl), Or.inl rfl⟩
theorem lq_17_97 (fz : Bool) (nm : String) : rf_wk (cx0 fz) ocl0 tb0 sp0 str0 (stt0 fz) "MemoryTransactionsModel" nm (.ldc2_w 232, [(1, 48)]) := wk_l2 (tb6 47 rfl rfl)
theorem lq_17_98 (fz : Bool) (nm : String) : rf_wk (cx0 fz) ocl0 tb0 sp0 str0 (stt0 fz) "MemoryTransactionsModel" nm (.putfield 234, [(11, 8)]) := wk_pf (ci := 11) (r := cq_11) rfl ⟨by decide, "MemoryTransactionsModel", (tb5 21 rfl rfl), Or.inl rfl⟩ rfl
theorem lq_17_99 (fz : Bool) (nm : String) : rf_wk (cx0 fz) ocl0 tb0 sp0 str0 (stt0 fz) "MemoryTransactionsModel" nm (.invokestatic 237, [(0, 1), (0, 137)]) := wk_st (mtq_137 fz) (mo_137 fz) (tb6 49 rfl rfl) (tb6 48 rfl rfl)
theorem lq_17_100 (fz : Bool) (nm : String) : rf_wk (cx0 fz) ocl0 tb0 sp0 str0 (stt0 fz) "MemoryTransactionsModel" nm (.ldc2_w 179, [(1, 26982)]) := wk_l2 (tb6 33 rfl rfl)
theorem lq_17_101 (fz : Bool) (nm : String) : rf_wk (cx0 fz) ocl0 tb0 sp0 str0 (stt0 fz) "MemoryTransactionsModel" nm (.ldc2_w 181, [(1, 1701606245)]) := wk_l2 (tb6 34 rfl rfl)
theorem lq_17_102 (fz : Bool) (nm : String) : rf_wk (cx0 fz) ocl0 tb0 sp0 str0 (stt0 fz) "MemoryTransactionsModel" nm (.ldc2_w 183, [(1, 512852847717)]) := wk_l2 (tb6 35 rfl rfl)
theorem lq_17_103 (fz : Bool) (nm : String) : rf_wk (cx0 fz) ocl0 tb0 sp0 str0 (stt0 fz) "MemoryTransactionsModel" nm (.ldc2_w 185, [(1, 491328402041)]) := wk_l2 (tb6 36 rfl rfl)
theorem lq_17_104 (fz : Bool) (nm : String) : rf_wk (cx0 fz) ocl0 tb0 sp0 str0 (stt0 fz) "MemoryTransactionsModel" nm (.ldc2_w 187, [(1, 499968536439)]) := wk_l2 (tb6 37 rfl rfl)
theorem lq_17_105 (fz : Bool) (nm : String) : rf_wk (cx0 fz) ocl0 tb0 sp0 str0 (stt0 fz) "MemoryTransactionsModel" nm (.ldc2_w 189, [(1, 111503598970226)]) := wk_l2 (tb6 38 rfl rfl)
theorem lq_17_106 (fz : Bool) (nm : String) : rf_wk (cx0 fz) ocl0 tb0 sp0 str0 (stt0 fz) "MemoryTransactionsModel" nm (.ldc2_w 191, [(1, 28530)]) := wk_l2 (tb6 39 rfl rfl)
theorem lq_17_107 (fz : Bool) (nm : String) : rf_wk (cx0 fz) ocl0 tb0 sp0 str0 (stt0 fz) "MemoryTransactionsModel" nm (.ldc2_w 193, [(1, 7631481)]) := wk_l2 (tb6 40 rfl rfl)
theorem lq_17_108 (fz : Bool) (nm : String) : rf_wk (cx0 fz) ocl0 tb0 sp0 str0 (stt0 fz) "MemoryTransactionsModel" nm (.ldc2_w 195, [(1, 426836779880)]) := wk_l2 (tb6 41 rfl rfl)
theorem lq_17_109 (fz : Bool) (nm : String) : rf_wk (cx0 fz) ocl0 tb0 sp0 str0 (stt0 fz) "MemoryTransactionsModel" nm (.ldc2_w 197, [(1, 107118487239027)]) := wk_l2 (tb6 42 rfl rfl)
theorem lq_17_110 (fz : Bool) (nm : String) : rf_wk (cx0 fz) ocl0 tb0 sp0 str0 (stt0 fz) "MemoryTransactionsModel" nm (.getfield 234, [(11, 8)]) := wk_gf (ci := 11) (r := cq_11) rfl ⟨by decide, "MemoryTransactionsModel", (tb5 21 rfl rfl), Or.inl rfl⟩
theorem lq_17_111 (fz : Bool) (nm : String) : rf_wk (cx0 fz) ocl0 tb0 sp0 str0 (stt0 fz) "MemoryTransactionsModel" nm (.getfield 206, [(11, 5)]) := wk_gf (ci := 11) (r := cq_11) rfl ⟨by decide, "MemoryTransactionsModel", (tb5 18 rfl rfl), Or.inl rfl⟩
theorem lq_17_112 (fz : Bool) (nm : String) : rf_wk (cx0 fz) ocl0 tb0 sp0 str0 (stt0 fz) "MemoryTransactionsModel" nm (.getfield 33, [(11, 17)]) := wk_gf (ci := 11) (r := cq_11) rfl ⟨by decide, "MemoryTransactionsModel", (tb5 30 rfl rfl), Or.inl rfl⟩
theorem lq_17_113 (fz : Bool) (nm : String) : rf_wk (cx0 fz) ocl0 tb0 sp0 str0 (stt0 fz) "MemoryTransactionsModel" nm (.invokevirtual 292, [(0, 2), (11, 141)]) := wk_iv (ci := 11) (r := cq_11) rfl (mtq_141 fz) (mo_141 fz) (tb6 65 rfl rfl) (tb6 63 rfl rfl) (tbm 44 (by decide +kernel))
theorem lq_17_114 (fz : Bool) (nm : String) : rf_wk (cx0 fz) ocl0 tb0 sp0 str0 (stt0 fz) "MemoryTransactionsModel" nm (.invokevirtual 296, [(0, 1), (11, 142)]) := wk_iv (ci := 11) (r := cq_11) rfl (mtq_142 fz) (mo_142 fz) (tb6 69 rfl rfl) (tb6 67 rfl rfl) (tbm 45 (by decide +kernel))
theorem lq_17_115 (fz : Bool) (nm : String) : rf_wk (cx0 fz) ocl0 tb0 sp0 str0 (stt0 fz) "MemoryTransactionsModel" nm (.getfield 216, [(11, 6)]) := wk_gf (ci := 11) (r := cq_11) rfl ⟨by decide, "MemoryTransactionsModel", (tb5 19 rfl rfl), Or.inl rfl⟩
theorem lq_17_116 (fz : Bool) (nm : String) : rf_wk (cx0 fz) ocl0 tb0 sp0 str0 (stt0 fz) "MemoryTransactionsModel" nm (.getfield 54, [(11, 24)]) := wk_gf (ci := 11) (r := cq_11) rfl ⟨by decide, "MemoryTransactionsModel", (tb5 37 rfl rfl), Or.inl rfl⟩
theorem lq_17_117 (fz : Bool) (nm : String) : rf_wk (cx0 fz) ocl0 tb0 sp0 str0 (stt0 fz) "MemoryTransactionsModel" nm (.invokevirtual 299, [(0, 0), (11, 144)]) := wk_iv (ci := 11) (r := cq_11) rfl (mtq_144 fz) (mo_144 fz) (tb6 77 rfl rfl) (tb6 75 rfl rfl) (tbm 47 (by decide +kernel))
theorem lq_17_118 (fz : Bool) (nm : String) : rf_wk (cx0 fz) ocl0 tb0 sp0 str0 (stt0 fz) "MemoryTransactionsModel" nm (.invokevirtual 303, [(0, 1), (11, 145)]) := wk_iv (ci := 11) (r := cq_11) rfl (mtq_145 fz) (mo_145 fz) (tb6 81 rfl rfl) (tb6 79 rfl rfl) (tbm 48 (by decide +kernel))
theorem lq_17_119 (fz : Bool) (nm : String) : rf_wk (cx0 fz) ocl0 tb0 sp0 str0 (stt0 fz) "MemoryTransactionsModel" nm (.getfield 45, [(11, 21)]) := wk_gf (ci := 11) (r := cq_11) rfl ⟨by decide, "MemoryTransactionsModel", (tb5 34 rfl rfl), Or.inl rfl⟩
theorem lq_17_120 (fz : Bool) (nm : String) : rf_wk (cx0 fz) ocl0 tb0 sp0 str0 (stt0 fz) "MemoryTransactionsModel" nm (.invokevirtual 306, [(0, 1), (11, 146)]) := wk_iv (ci := 11) (r := cq_11) rfl (mtq_146 fz) (mo_146 fz) (tb6 85 rfl rfl) (tb6 83 rfl rfl) (tbm 49 (by decide +kernel))
theorem lq_17_121 (fz : Bool) (nm : String) : rf_wk (cx0 fz) ocl0 tb0 sp0 str0 (stt0 fz) "MemoryTransactionsModel" nm (.getfield 36, [(11, 18)]) := wk_gf (ci := 11) (r := cq_11) rfl ⟨by decide, "MemoryTransactionsModel", (tb5 31 rfl rfl), Or.inl rfl⟩
theorem lq_17_122 (fz : Bool) (nm : String) : rf_wk (cx0 fz) ocl0 tb0 sp0 str0 (stt0 fz) "MemoryTransactionsModel" nm (.getfield 39, [(11, 19)]) := wk_gf (ci := 11) (r := cq_11) rfl ⟨by decide, "MemoryTransactionsModel", (tb5 32 rfl rfl), Or.inl rfl⟩
theorem lq_17_123 (fz : Bool) (nm : String) : rf_wk (cx0 fz) ocl0 tb0 sp0 str0 (stt0 fz) "MemoryTransactionsModel" nm (.getfield 42, [(11, 20)]) := wk_gf (ci := 11) (r := cq_11) rfl ⟨by decide, "MemoryTransactionsModel", (tb5 33 rfl rfl), Or.inl rfl⟩
theorem lq_17_124 (fz : Bool) (nm : String) : rf_wk (cx0 fz) ocl0 tb0 sp0 str0 (stt0 fz) "MemoryTransactionsModel" nm (.getfield 48, [(11, 22)]) := wk_gf (ci := 11) (r := cq_11) rfl ⟨by decide, "MemoryTransactionsModel", (tb5 35 rfl rfl), Or.inl rfl⟩
theorem lq_17_125 (fz : Bool) (nm : String) : rf_wk (cx0 fz) ocl0 tb0 sp0 str0 (stt0 fz) "MemoryTransactionsModel" nm (.getfield 51, [(11, 23)]) := wk_gf (ci := 11) (r := cq_11) rfl ⟨by decide, "MemoryTransactionsModel", (tb5 36 rfl rfl), Or.inl rfl⟩
theorem lq_17_126 (fz : Bool) (nm : String) : rf_wk (cx0 fz) ocl0 tb0 sp0 str0 (stt0 fz) "MemoryTransactionsModel" nm (.putfield 256, [(11, 30)]) := wk_pf (ci := 11) (r := cq_11) rfl ⟨by decide, "MemoryTransactionsModel", (tb5 43 rfl rfl), Or.inl rfl⟩ rfl
theorem lq_17_127 (fz : Bool) (nm : String) : rf_wk (cx0 fz) ocl0 tb0 sp0 str0 (stt0 fz) "MemoryTransactionsModel" nm (.putfield 266, [(11, 31)]) := wk_pf (ci := 11) (r := cq_11) rfl ⟨by decide, "MemoryTransactionsModel", (tb5 44 rfl rfl), Or.inl rfl⟩ rfl
theorem lq_17_128 (fz : Bool) (nm : String) : rf_wk (cx0 fz) ocl0 tb0 sp0 str0 (stt0 fz) "MemoryTransactionsModel" nm (.putfield 269, [(11, 33)]) := wk_pf (ci := 11) (r := cq_11) rfl ⟨by decide, "MemoryTransactionsModel", (tb5 46 rfl rfl), Or.inl rfl⟩ rfl
theorem lq_17_129 (fz : Bool) (nm : String) : rf_wk (cx0 fz) ocl0 tb0 sp0 str0 (stt0 fz) "MemoryTransactionsModel" nm (.getfield 70, [(11, 32)]) := wk_gf (ci := 11) (r := cq_11) rfl ⟨by decide, "MemoryTransactionsModel", (tb5 45 rfl rfl), Or.inl rfl⟩
theorem lq_17_130 (fz : Bool) (nm : String) : rf_wk (cx0 fz) ocl0 tb0 sp0 str0 (stt0 fz) "MemoryTransactionsModel" nm (.invokevirtual 272, [(0, 1), (11, 147)]) := wk_iv (ci := 11) (r := cq_11) rfl (mtq_147 fz) (mo_147 fz) (tb6 89 rfl rfl) (tb6 87 rfl rfl) (tbm 50 (by decide +kernel))
theorem lq_17_131 (fz : Bool) (nm : String) : rf_wk (cx0 fz) ocl0 tb0 sp0 str0 (stt0 fz) "MemoryTransactionsModel" nm (.getfield 269, [(11, 33)]) := wk_gf (ci := 11) (r := cq_11) rfl ⟨by decide, "MemoryTransactionsModel", (tb5 46 rfl rfl), Or.inl rfl⟩
theorem lq_17_132 (fz : Bool) (nm : String) : rf_wk (cx0 fz) ocl0 tb0 sp0 str0 (stt0 fz) "MemoryTransactionsModel" nm (.invokevirtual 276, [(0, 1), (11, 150)]) := wk_iv (ci := 11) (r := cq_11) rfl (mtq_150 fz) (mo_150 fz) (tb6 101 rfl rfl) (tb6 99 rfl rfl) (tbm 53 (by decide +kernel))
theorem lq_17_133 (fz : Bool) (nm : String) : rf_wk (cx0 fz) ocl0 tb0 sp0 str0 (stt0 fz) "MemoryTransactionsModel" nm (.getfield 256, [(11, 30)]) := wk_gf (ci := 11) (r := cq_11) rfl ⟨by decide, "MemoryTransactionsModel", (tb5 43 rfl rfl), Or.inl rfl⟩
theorem lq_17_134 (fz : Bool) (nm : String) : rf_wk (cx0 fz) ocl0 tb0 sp0 str0 (stt0 fz) "MemoryTransactionsModel" nm (.getfield 266, [(11, 31)]) := wk_gf (ci := 11) (r := cq_11) rfl ⟨by decide, "MemoryTransactionsModel", (tb5 44 rfl rfl), Or.inl rfl⟩
theorem lq_17_135 (fz : Bool) (nm : String) : rf_wk (cx0 fz) ocl0 tb0 sp0 str0 (stt0 fz) "MemoryTransactionsModel" nm (.invokevirtual 280, [(0, 0), (11, 149)]) := wk_iv (ci := 11) (r := cq_11) rfl (mtq_149 fz) (mo_149 fz) (tb6 97 rfl rfl) (tb6 95 rfl rfl) (tbm 52 (by decide +kernel))
theorem lq_17_136 (fz : Bool) (nm : String) : rf_wk (cx0 fz) ocl0 tb0 sp0 str0 (stt0 fz) "MemoryTransactionsModel" nm (.invokestatic 259, [(0, 1), (0, 151)]) := wk_st (mtq_151 fz) (mo_151 fz) (tb6 104 rfl rfl) (tb6 103 rfl rfl)
theorem lq_17_137 (fz : Bool) (nm : String) : rf_wk (cx0 fz) ocl0 tb0 sp0 str0 (stt0 fz) "MemoryTransactionsModel" nm (.getfield 67, [(11, 29)]) := wk_gf (ci := 11) (r := cq_11) rfl ⟨by decide, "MemoryTransactionsModel", (tb5 42 rfl rfl), Or.inl rfl⟩
theorem lq_17_138 (fz : Bool) (nm : String) : rf_wk (cx0 fz) ocl0 tb0 sp0 str0 (stt0 fz) "MemoryTransactionsModel" nm (.invokevirtual 262, [(0, 3), (11, 148)]) := wk_iv (ci := 11) (r := cq_11) rfl (mtq_148 fz) (mo_148 fz) (tb6 93 rfl rfl) (tb6 91 rfl rfl) (tbm 51 (by decide +kernel))
theorem lq_17_139 (fz : Bool) (nm : String) : rf_wk (cx0 fz) ocl0 tb0 sp0 str0 (stt0 fz) "MemoryTransactionsModel" nm (.getfield 57, [(11, 25)]) := wk_gf (ci := 11) (r := cq_11) rfl ⟨by decide, "MemoryTransactionsModel", (tb5 38 rfl rfl), Or.inl rfl⟩
theorem lq_17_140 (fz : Bool) (nm : String) : rf_wk (cx0 fz) ocl0 tb0 sp0 str0 (stt0 fz) "MemoryTransactionsModel" nm (.getfield 60, [(11, 26)]) := wk_gf (ci := 11) (r := cq_11) rfl ⟨by decide, "MemoryTransactionsModel", (tb5 39 rfl rfl), Or.inl rfl⟩
theorem lq_17_141 (fz : Bool) (nm : String) : rf_wk (cx0 fz) ocl0 tb0 sp0 str0 (stt0 fz) "MemoryTransactionsModel" nm (.getfield 63, [(11, 27)]) := wk_gf (ci := 11) (r := cq_11) rfl ⟨by decide, "MemoryTransactionsModel", (tb5 40 rfl rfl), Or.inl rfl⟩
theorem lq_17_142 (fz : Bool) (nm : String) : rf_wk (cx0 fz) ocl0 tb0 sp0 str0 (stt0 fz) "MemoryTransactionsModel" nm (.getfield 13, [(11, 10)]) := wk_gf (ci := 11) (r := cq_11) rfl ⟨by decide, "MemoryTransactionsModel", (tb5 23 rfl rfl), Or.inl rfl⟩
theorem lq_17_143 (fz : Bool) (nm : String) : rf_wk (cx0 fz) ocl0 tb0 sp0 str0 (stt0 fz) "MemoryTransactionsModel" nm (.invokevirtual 431, [(0, 1), (11, 155)]) := wk_iv (ci := 11) (r := cq_11) rfl (mtq_155 fz) (mo_155 fz) (tb6 120 rfl rfl) (tb6 118 rfl rfl) (tbm 54 (by decide +kernel))
theorem lq_17_144 (fz : Bool) (nm : String) : rf_wk (cx0 fz) ocl0 tb0 sp0 str0 (stt0 fz) "MemoryTransactionsModel" nm (.invokevirtual 434, [(0, 1), (11, 156)]) := wk_iv (ci := 11) (r := cq_11) rfl (mtq_156 fz) (mo_156 fz) (tb6 124 rfl rfl) (tb6 122 rfl rfl) (tbm 55 (by decide +kernel))
theorem lq_17_145 (fz : Bool) (nm : String) : rf_wk (cx0 fz) ocl0 tb0 sp0 str0 (stt0 fz) "MemoryTransactionsModel" nm (.getfield 98, [(11, 44)]) := wk_gf (ci := 11) (r := cq_11) rfl ⟨by decide, "MemoryTransactionsModel", (tb5 57 rfl rfl), Or.inl rfl⟩
theorem lq_17_146 (fz : Bool) (nm : String) : rf_wk (cx0 fz) ocl0 tb0 sp0 str0 (stt0 fz) "MemoryTransactionsModel" nm (.getfield 101, [(11, 45)]) := wk_gf (ci := 11) (r := cq_11) rfl ⟨by decide, "MemoryTransactionsModel", (tb5 58 rfl rfl), Or.inl rfl⟩
theorem lq_17_147 (fz : Bool) (nm : String) : rf_wk (cx0 fz) ocl0 tb0 sp0 str0 (stt0 fz) "MemoryTransactionsModel" nm (.putfield 319, [(11, 42)]) := wk_pf (ci := 11) (r := cq_11) rfl ⟨by decide, "MemoryTransactionsModel", (tb5 55 rfl rfl), Or.inl rfl⟩ rfl
theorem lq_17_148 (fz : Bool) (nm : String) : rf_wk (cx0 fz) ocl0 tb0 sp0 str0 (stt0 fz) "MemoryTransactionsModel" nm (.invokevirtual 389, [(0, 1), (11, 157)]) := wk_iv (ci := 11) (r := cq_11) rfl (mtq_157 fz) (mo_157 fz) (tb6 128 rfl rfl) (tb6 126 rfl rfl) (tbm 56 (by decide +kernel))
theorem lq_17_149 (fz : Bool) (nm : String) : rf_wk (cx0 fz) ocl0 tb0 sp0 str0 (stt0 fz) "MemoryTransactionsModel" nm (.invokevirtual 325, [(0, 0), (11, 158)]) := wk_iv (ci := 11) (r := cq_11) rfl (mtq_158 fz) (mo_158 fz) (tb6 132 rfl rfl) (tb6 130 rfl rfl) (tbm 57 (by decide +kernel))
theorem lq_17_150 (fz : Bool) (nm : String) : rf_wk (cx0 fz) ocl0 tb0 sp0 str0 (stt0 fz) "MemoryTransactionsModel" nm (.getfield 104, [(11, 46)]) := wk_gf (ci := 11) (r := cq_11) rfl ⟨by decide, "MemoryTransactionsModel", (tb5 59 rfl rfl), Or.inl rfl⟩
theorem lq_17_151 (fz : Bool) (nm : String) : rf_wk (cx0 fz) ocl0 tb0 sp0 str0 (stt0 fz) "MemoryTransactionsModel" nm (.getfield 113, [(11, 49)]) := wk_gf (ci := 11) (r := cq_11) rfl ⟨by decide, "MemoryTransactionsModel", (tb5 62 rfl rfl), Or.inl rfl⟩
theorem lq_17_152 (fz : Bool) (nm : String) : rf_wk (cx0 fz) ocl0 tb0 sp0 str0 (stt0 fz) "MemoryTransactionsModel" nm (.invokevirtual 405, [(0, 1), (11, 159)]) := wk_iv (ci := 11) (r := cq_11) rfl (mtq_159 fz) (mo_159 fz) (tb6 136 rfl rfl) (tb6 134 rfl rfl) (tbm 58 (by decide +kernel))
theorem lq_17_153 (fz : Bool) (nm : String) : rf_wk (cx0 fz) ocl0 tb0 sp0 str0 (stt0 fz) "MemoryTransactionsModel" nm (.ldc2_w 408, [(1, 18446744073709551613)]) := wk_l2 (tb6 191 rfl rfl)
theorem lq_17_154 (fz : Bool) (nm : String) : rf_wk (cx0 fz) ocl0 tb0 sp0 str0 (stt0 fz) "MemoryTransactionsModel" nm (.putfield 342, [(11, 66)]) := wk_pf (ci := 11) (r := cq_11) rfl ⟨by decide, "MemoryTransactionsModel", (tb5 79 rfl rfl), Or.inl rfl⟩ rfl
theorem lq_17_155 (fz : Bool) (nm : String) : rf_wk (cx0 fz) ocl0 tb0 sp0 str0 (stt0 fz) "MemoryTransactionsModel" nm (.invokevirtual 395, [(0, 0), (11, 162)]) := wk_iv (ci := 11) (r := cq_11) rfl (mtq_162 fz) (mo_162 fz) (tb6 148 rfl rfl) (tb6 146 rfl rfl) (tbm 61 (by decide +kernel))
theorem lq_17_156 (fz : Bool) (nm : String) : rf_wk (cx0 fz) ocl0 tb0 sp0 str0 (stt0 fz) "MemoryTransactionsModel" nm (.invokevirtual 410, [(0, 1), (11, 173)]) := wk_iv (ci := 11) (r := cq_11) rfl (mtq_173 fz) (mo_173 fz) (tb6 194 rfl rfl) (tb6 192 rfl rfl) (tbm 72 (by decide +kernel))
theorem lq_17_157 (fz : Bool) (nm : String) : rf_wk (cx0 fz) ocl0 tb0 sp0 str0 (stt0 fz) "MemoryTransactionsModel" nm (.invokevirtual 413, [(0, 1), (11, 174)]) := wk_iv (ci := 11) (r := cq_11) rfl (mtq_174 fz) (mo_174 fz) (tb6 198 rfl rfl) (tb6 196 rfl rfl) (tbm 73 (by decide +kernel))
theorem lq_17_158 (fz : Bool) (nm : String) : rf_wk (cx0 fz) ocl0 tb0 sp0 str0 (stt0 fz) "MemoryTransactionsModel" nm (.getfield 110, [(11, 48)]) := wk_gf (ci := 11) (r := cq_11) rfl ⟨by decide, "MemoryTransactionsModel", (tb5 61 rfl rfl), Or.inl rfl⟩
theorem lq_17_159 (fz : Bool) (nm : String) : rf_wk (cx0 fz) ocl0 tb0 sp0 str0 (stt0 fz) "MemoryTransactionsModel" nm (.invokevirtual 416, [(0, 1), (11, 175)]) := wk_iv (ci := 11) (r := cq_11) rfl (mtq_175 fz) (mo_175 fz) (tb6 202 rfl rfl) (tb6 200 rfl rfl) (tbm 74 (by decide +kernel))
theorem lq_17_160 (fz : Bool) (nm : String) : rf_wk (cx0 fz) ocl0 tb0 sp0 str0 (stt0 fz) "MemoryTransactionsModel" nm (.getfield 342, [(11, 66)]) := wk_gf (ci := 11) (r := cq_11) rfl ⟨by decide, "MemoryTransactionsModel", (tb5 79 rfl rfl), Or.inl rfl⟩
theorem lq_17_161 (fz : Bool) (nm : String) : rf_wk (cx0 fz) ocl0 tb0 sp0 str0 (stt0 fz) "MemoryTransactionsModel" nm (.invokevirtual 419, [(0, 2), (11, 176)]) := wk_iv (ci := 11) (r := cq_11) rfl (mtq_176 fz) (mo_176 fz) (tb6 206 rfl rfl) (tb6 204 rfl rfl) (tbm 75 (by decide +kernel))
theorem lq_17_162 (fz : Bool) (nm : String) : rf_wk (cx0 fz) ocl0 tb0 sp0 str0 (stt0 fz) "MemoryTransactionsModel" nm (.invokevirtual 423, [(0, 0), (11, 179)]) := wk_iv (ci := 11) (r := cq_11) rfl (mtq_179 fz) (mo_179 fz) (tb6 218 rfl rfl) (tb6 216 rfl rfl) (tbm 78 (by decide +kernel))
theorem lq_17_163 (fz : Bool) (nm : String) : rf_wk (cx0 fz) ocl0 tb0 sp0 str0 (stt0 fz) "MemoryTransactionsModel" nm (.ldc2_w 426, [(1, 18446744073709551614)]) := wk_l2 (tb6 228 rfl rfl)
theorem lq_17_164 (fz : Bool) (nm : String) : rf_wk (cx0 fz) ocl0 tb0 sp0 str0 (stt0 fz) "MemoryTransactionsModel" nm (.getfield 386, [(11, 69)]) := wk_gf (ci := 11) (r := cq_11) rfl ⟨by decide, "MemoryTransactionsModel", (tb5 82 rfl rfl), Or.inl rfl⟩
theorem lq_17_165 (fz : Bool) (nm : String) : rf_wk (cx0 fz) ocl0 tb0 sp0 str0 (stt0 fz) "MemoryTransactionsModel" nm (.invokevirtual 428, [(0, 0), (11, 182)]) := wk_iv (ci := 11) (r := cq_11) rfl (mtq_182 fz) (mo_182 fz) (tb6 231 rfl rfl) (tb6 229 rfl rfl) (tbm 81 (by decide +kernel))
theorem lq_17_166 (fz : Bool) (nm : String) : rf_wk (cx0 fz) ocl0 tb0 sp0 str0 (stt0 fz) "MemoryTransactionsModel" nm (.invokevirtual 392, [(0, 1), (11, 160)]) := wk_iv (ci := 11) (r := cq_11) rfl (mtq_160 fz) (mo_160 fz) (tb6 140 rfl rfl) (tb6 138 rfl rfl) (tbm 59 (by decide +kernel))
theorem lq_17_167 (fz : Bool) (nm : String) : rf_wk (cx0 fz) ocl0 tb0 sp0 str0 (stt0 fz) "MemoryTransactionsModel" nm (.getfield 107, [(11, 47)]) := wk_gf (ci := 11) (r := cq_11) rfl ⟨by decide, "MemoryTransactionsModel", (tb5 60 rfl rfl), Or.inl rfl⟩
theorem lq_17_168 (fz : Bool) (nm : String) : rf_wk (cx0 fz) ocl0 tb0 sp0 str0 (stt0 fz) "MemoryTransactionsModel" nm (.invokevirtual 398, [(0, 6), (11, 177)]) := wk_iv (ci := 11) (r := cq_11) rfl (mtq_177 fz) (mo_177 fz) (tb6 210 rfl rfl) (tb6 208 rfl rfl) (tbm 76 (by decide +kernel))
theorem lq_17_169 (fz : Bool) (nm : String) : rf_wk (cx0 fz) ocl0 tb0 sp0 str0 (stt0 fz) "MemoryTransactionsModel" nm (.invokevirtual 402, [(0, 1), (11, 178)]) := wk_iv (ci := 11) (r := cq_11) rfl (mtq_178 fz) (mo_178 fz) (tb6 214 rfl rfl) (tb6 212 rfl rfl) (tbm 77 (by decide +kernel))
theorem lq_17_170 (fz : Bool) (nm : String) : rf_wk (cx0 fz) ocl0 tb0 sp0 str0 (stt0 fz) "MemoryTransactionsModel" nm (.putfield 316, [(11, 52)]) := wk_pf (ci := 11) (r := cq_11) rfl ⟨by decide, "MemoryTransactionsModel", (tb5 65 rfl rfl), Or.inl rfl⟩ rfl
theorem lq_17_171 (fz : Bool) (nm : String) : rf_wk (cx0 fz) ocl0 tb0 sp0 str0 (stt0 fz) "MemoryTransactionsModel" nm (.getfield 122, [(11, 53)]) := wk_gf (ci := 11) (r := cq_11) rfl ⟨by decide, "MemoryTransactionsModel", (tb5 66 rfl rfl), Or.inl rfl⟩
theorem lq_17_172 (fz : Bool) (nm : String) : rf_wk (cx0 fz) ocl0 tb0 sp0 str0 (stt0 fz) "MemoryTransactionsModel" nm (.getfield 116, [(11, 50)]) := wk_gf (ci := 11) (r := cq_11) rfl ⟨by decide, "MemoryTransactionsModel", (tb5 63 rfl rfl), Or.inl rfl⟩
theorem lq_17_173 (fz : Bool) (nm : String) : rf_wk (cx0 fz) ocl0 tb0 sp0 str0 (stt0 fz) "MemoryTransactionsModel" nm (.getfield 125, [(11, 54)]) := wk_gf (ci := 11) (r := cq_11) rfl ⟨by decide, "MemoryTransactionsModel", (tb5 67 rfl rfl), Or.inl rfl⟩
theorem lq_17_174 (fz : Bool) (nm : String) : rf_wk (cx0 fz) ocl0 tb0 sp0 str0 (stt0 fz) "MemoryTransactionsModel" nm (.getfield 119, [(11, 51)]) := wk_gf (ci := 11) (r := cq_11) rfl ⟨by decide, "MemoryTransactionsModel", (tb5 64 rfl rfl), Or.inl rfl⟩
theorem lq_17_175 (fz : Bool) (nm : String) : rf_wk (cx0 fz) ocl0 tb0 sp0 str0 (stt0 fz) "MemoryTransactionsModel" nm (.getfield 316, [(11, 52)]) := wk_gf (ci := 11) (r := cq_11) rfl ⟨by decide, "MemoryTransactionsModel", (tb5 65 rfl rfl), Or.inl rfl⟩
theorem lq_17_176 (fz : Bool) (nm : String) : rf_wk (cx0 fz) ocl0 tb0 sp0 str0 (stt0 fz) "MemoryTransactionsModel" nm (.getfield 86, [(11, 39)]) := wk_gf (ci := 11) (r := cq_11) rfl ⟨by decide, "MemoryTransactionsModel", (tb5 52 rfl rfl), Or.inl rfl⟩
theorem lq_17_177 (fz : Bool) (nm : String) : rf_wk (cx0 fz) ocl0 tb0 sp0 str0 (stt0 fz) "MemoryTransactionsModel" nm (.getfield 319, [(11, 42)]) := wk_gf (ci := 11) (r := cq_11) rfl ⟨by decide, "MemoryTransactionsModel", (tb5 55 rfl rfl), Or.inl rfl⟩
theorem lq_17_178 (fz : Bool) (nm : String) : rf_wk (cx0 fz) ocl0 tb0 sp0 str0 (stt0 fz) "MemoryTransactionsModel" nm (.invokevirtual 345, [(0, 1), (11, 161)]) := wk_iv (ci := 11) (r := cq_11) rfl (mtq_161 fz) (mo_161 fz) (tb6 144 rfl rfl) (tb6 142 rfl rfl) (tbm 60 (by decide +kernel))
theorem lq_17_179 (fz : Bool) (nm : String) : rf_wk (cx0 fz) ocl0 tb0 sp0 str0 (stt0 fz) "MemoryTransactionsModel" nm (.getfield 95, [(11, 43)]) := wk_gf (ci := 11) (r := cq_11) rfl ⟨by decide, "MemoryTransactionsModel", (tb5 56 rfl rfl), Or.inl rfl⟩
theorem lq_17_180 (fz : Bool) (nm : String) : rf_wk (cx0 fz) ocl0 tb0 sp0 str0 (stt0 fz) "MemoryTransactionsModel" nm (.putfield 322, [(11, 55)]) := wk_pf (ci := 11) (r := cq_11) rfl ⟨by decide, "MemoryTransactionsModel", (tb5 68 rfl rfl), Or.inl rfl⟩ rfl
theorem lq_17_181 (fz : Bool) (nm : String) : rf_wk (cx0 fz) ocl0 tb0 sp0 str0 (stt0 fz) "MemoryTransactionsModel" nm (.putfield 348, [(11, 58)]) := wk_pf (ci := 11) (r := cq_11) rfl ⟨by decide, "MemoryTransactionsModel", (tb5 71 rfl rfl), Or.inl rfl⟩ rfl
theorem lq_17_182 (fz : Bool) (nm : String) : rf_wk (cx0 fz) ocl0 tb0 sp0 str0 (stt0 fz) "MemoryTransactionsModel" nm (.getfield 131, [(11, 57)]) := wk_gf (ci := 11) (r := cq_11) rfl ⟨by decide, "MemoryTransactionsModel", (tb5 70 rfl rfl), Or.inl rfl⟩
theorem lq_17_183 (fz : Bool) (nm : String) : rf_wk (cx0 fz) ocl0 tb0 sp0 str0 (stt0 fz) "MemoryTransactionsModel" nm (.putfield 351, [(11, 60)]) := wk_pf (ci := 11) (r := cq_11) rfl ⟨by decide, "MemoryTransactionsModel", (tb5 73 rfl rfl), Or.inl rfl⟩ rfl
theorem lq_17_184 (fz : Bool) (nm : String) : rf_wk (cx0 fz) ocl0 tb0 sp0 str0 (stt0 fz) "MemoryTransactionsModel" nm (.getfield 351, [(11, 60)]) := wk_gf (ci := 11) (r := cq_11) rfl ⟨by decide, "MemoryTransactionsModel", (tb5 73 rfl rfl), Or.inl rfl⟩
theorem lq_17_185 (fz : Bool) (nm : String) : rf_wk (cx0 fz) ocl0 tb0 sp0 str0 (stt0 fz) "MemoryTransactionsModel" nm (.putfield 329, [(11, 65)]) := wk_pf (ci := 11) (r := cq_11) rfl ⟨by decide, "MemoryTransactionsModel", (tb5 78 rfl rfl), Or.inl rfl⟩ rfl
theorem lq_17_186 (fz : Bool) (nm : String) : rf_wk (cx0 fz) ocl0 tb0 sp0 str0 (stt0 fz) "MemoryTransactionsModel" nm (.invokevirtual 357, [(0, 2), (11, 163)]) := wk_iv (ci := 11) (r := cq_11) rfl (mtq_163 fz) (mo_163 fz) (tb6 152 rfl rfl) (tb6 150 rfl rfl) (tbm 62 (by decide +kernel))
theorem lq_17_187 (fz : Bool) (nm : String) : rf_wk (cx0 fz) ocl0 tb0 sp0 str0 (stt0 fz) "MemoryTransactionsModel" nm (.getfield 329, [(11, 65)]) := wk_gf (ci := 11) (r := cq_11) rfl ⟨by decide, "MemoryTransactionsModel", (tb5 78 rfl rfl), Or.inl rfl⟩
theorem lq_17_188 (fz : Bool) (nm : String) : rf_wk (cx0 fz) ocl0 tb0 sp0 str0 (stt0 fz) "MemoryTransactionsModel" nm (.invokevirtual 361, [(0, 1), (11, 166)]) := wk_iv (ci := 11) (r := cq_11) rfl (mtq_166 fz) (mo_166 fz) (tb6 165 rfl rfl) (tb6 163 rfl rfl) (tbm 65 (by decide +kernel))
theorem lq_17_189 (fz : Bool) (nm : String) : rf_wk (cx0 fz) ocl0 tb0 sp0 str0 (stt0 fz) "MemoryTransactionsModel" nm (.getfield 128, [(11, 56)]) := wk_gf (ci := 11) (r := cq_11) rfl ⟨by decide, "MemoryTransactionsModel", (tb5 69 rfl rfl), Or.inl rfl⟩
theorem lq_17_190 (fz : Bool) (nm : String) : rf_wk (cx0 fz) ocl0 tb0 sp0 str0 (stt0 fz) "MemoryTransactionsModel" nm (.getfield 322, [(11, 55)]) := wk_gf (ci := 11) (r := cq_11) rfl ⟨by decide, "MemoryTransactionsModel", (tb5 68 rfl rfl), Or.inl rfl⟩
theorem lq_17_191 (fz : Bool) (nm : String) : rf_wk (cx0 fz) ocl0 tb0 sp0 str0 (stt0 fz) "MemoryTransactionsModel" nm (.invokevirtual 354, [(0, 1), (11, 170)]) := wk_iv (ci := 11) (r := cq_11) rfl (mtq_170 fz) (mo_170 fz) (tb6 181 rfl rfl) (tb6 179 rfl rfl) (tbm 69 (by decide +kernel))
theorem lq_17_192 (fz : Bool) (nm : String) : rf_wk (cx0 fz) ocl0 tb0 sp0 str0 (stt0 fz) "MemoryTransactionsModel" nm (.invokevirtual 364, [(0, 2), (11, 169)]) := wk_iv (ci := 11) (r := cq_11) rfl (mtq_169 fz) (mo_169 fz) (tb6 177 rfl rfl) (tb6 175 rfl rfl) (tbm 68 (by decide +kernel))
theorem lq_17_193 (fz : Bool) (nm : String) : rf_wk (cx0 fz) ocl0 tb0 sp0 str0 (stt0 fz) "MemoryTransactionsModel" nm (.invokevirtual 367, [(0, 1), (11, 171)]) := wk_iv (ci := 11) (r := cq_11) rfl (mtq_171 fz) (mo_171 fz) (tb6 185 rfl rfl) (tb6 183 rfl rfl) (tbm 70 (by decide +kernel))
theorem lq_17_194 (fz : Bool) (nm : String) : rf_wk (cx0 fz) ocl0 tb0 sp0 str0 (stt0 fz) "MemoryTransactionsModel" nm (.getfield 134, [(11, 59)]) := wk_gf (ci := 11) (r := cq_11) rfl ⟨by decide, "MemoryTransactionsModel", (tb5 72 rfl rfl), Or.inl rfl⟩
theorem lq_17_195 (fz : Bool) (nm : String) : rf_wk (cx0 fz) ocl0 tb0 sp0 str0 (stt0 fz) "MemoryTransactionsModel" nm (.getfield 348, [(11, 58)]) := wk_gf (ci := 11) (r := cq_11) rfl ⟨by decide, "MemoryTransactionsModel", (tb5 71 rfl rfl), Or.inl rfl⟩
theorem lq_17_196 (fz : Bool) (nm : String) : rf_wk (cx0 fz) ocl0 tb0 sp0 str0 (stt0 fz) "MemoryTransactionsModel" nm (.invokevirtual 370, [(0, 1), (11, 172)]) := wk_iv (ci := 11) (r := cq_11) rfl (mtq_172 fz) (mo_172 fz) (tb6 189 rfl rfl) (tb6 187 rfl rfl) (tbm 71 (by decide +kernel))
theorem lq_17_197 (fz : Bool) (nm : String) : rf_wk (cx0 fz) ocl0 tb0 sp0 str0 (stt0 fz) "MemoryTransactionsModel" nm (.getfield 149, [(11, 67)]) := wk_gf (ci := 11) (r := cq_11) rfl ⟨by decide, "MemoryTransactionsModel", (tb5 80 rfl rfl), Or.inl rfl⟩
theorem lq_17_198 (fz : Bool) (nm : String) : rf_wk (cx0 fz) ocl0 tb0 sp0 str0 (stt0 fz) "MemoryTransactionsModel" nm (.getfield 152, [(11, 68)]) := wk_gf (ci := 11) (r := cq_11) rfl ⟨by decide, "MemoryTransactionsModel", (tb5 81 rfl rfl), Or.inl rfl⟩
theorem lq_17_199 (fz : Bool) (nm : String) : rf_wk (cx0 fz) ocl0 tb0 sp0 str0 (stt0 fz) "MemoryTransactionsModel" nm (.invokevirtual 332, [(0, 1), (11, 164)]) := wk_iv (ci := 11) (r := cq_11) rfl (mtq_164 fz) (mo_164 fz) (tb6 156 rfl rfl) (tb6 154 rfl rfl) (tbm 63 (by decide +kernel))
theorem lq_17_200 (fz : Bool) (nm : String) : rf_wk (cx0 fz) ocl0 tb0 sp0 str0 (stt0 fz) "MemoryTransactionsModel" nm (.invokevirtual 336, [(0, 3), (11, 165)]) := wk_iv (ci := 11) (r := cq_11) rfl (mtq_165 fz) (mo_165 fz) (tb6 160 rfl rfl) (tb6 158 rfl rfl) (tbm 64 (by decide +kernel))
theorem lq_17_201 (fz : Bool) (nm : String) : rf_wk (cx0 fz) ocl0 tb0 sp0 str0 (stt0 fz) "MemoryTransactionsModel" nm (.getfield 83, [(11, 38)]) := wk_gf (ci := 11) (r := cq_11) rfl ⟨by decide, "MemoryTransactionsModel", (tb5 51 rfl rfl), Or.inl rfl⟩
theorem lq_17_202 (fz : Bool) (nm : String) : rf_wk (cx0 fz) ocl0 tb0 sp0 str0 (stt0 fz) "MemoryTransactionsModel" nm (.ldc2_w 340, [(1, 18446744073709551615)]) := wk_l2 (tb6 162 rfl rfl)
theorem lq_17_203 (fz : Bool) (nm : String) : rf_wk (cx0 fz) ocl0 tb0 sp0 str0 (stt0 fz) "MemoryTransactionsModel" nm (.invokevirtual 373, [(0, 2), (11, 167)]) := wk_iv (ci := 11) (r := cq_11) rfl (mtq_167 fz) (mo_167 fz) (tb6 169 rfl rfl) (tb6 167 rfl rfl) (tbm 66 (by decide +kernel))
theorem lq_17_204 (fz : Bool) (nm : String) : rf_wk (cx0 fz) ocl0 tb0 sp0 str0 (stt0 fz) "MemoryTransactionsModel" nm (.invokevirtual 377, [(0, 1), (11, 168)]) := wk_iv (ci := 11) (r := cq_11) rfl (mtq_168 fz) (mo_168 fz) (tb6 173 rfl rfl) (tb6 171 rfl rfl) (tbm 67 (by decide +kernel))
theorem lq_17_205 (fz : Bool) (nm : String) : rf_wk (cx0 fz) ocl0 tb0 sp0 str0 (stt0 fz) "MemoryTransactionsModel" nm (.getfield 137, [(11, 61)]) := wk_gf (ci := 11) (r := cq_11) rfl ⟨by decide, "MemoryTransactionsModel", (tb5 74 rfl rfl), Or.inl rfl⟩
theorem lq_17_206 (fz : Bool) (nm : String) : rf_wk (cx0 fz) ocl0 tb0 sp0 str0 (stt0 fz) "MemoryTransactionsModel" nm (.getfield 146, [(11, 64)]) := wk_gf (ci := 11) (r := cq_11) rfl ⟨by decide, "MemoryTransactionsModel", (tb5 77 rfl rfl), Or.inl rfl⟩
theorem lq_17_207 (fz : Bool) (nm : String) : rf_wk (cx0 fz) ocl0 tb0 sp0 str0 (stt0 fz) "MemoryTransactionsModel" nm (.getfield 140, [(11, 62)]) := wk_gf (ci := 11) (r := cq_11) rfl ⟨by decide, "MemoryTransactionsModel", (tb5 75 rfl rfl), Or.inl rfl⟩
theorem lq_17_208 (fz : Bool) (nm : String) : rf_wk (cx0 fz) ocl0 tb0 sp0 str0 (stt0 fz) "MemoryTransactionsModel" nm (.getfield 143, [(11, 63)]) := wk_gf (ci := 11) (r := cq_11) rfl ⟨by decide, "MemoryTransactionsModel", (tb5 76 rfl rfl), Or.inl rfl⟩
theorem lq_17_209 (fz : Bool) (nm : String) : rf_wk (cx0 fz) ocl0 tb0 sp0 str0 (stt0 fz) "MemoryTransactionsModel" nm (.getfield 155, [(11, 70)]) := wk_gf (ci := 11) (r := cq_11) rfl ⟨by decide, "MemoryTransactionsModel", (tb5 83 rfl rfl), Or.inl rfl⟩
theorem lq_17_210 (fz : Bool) (nm : String) : rf_wk (cx0 fz) ocl0 tb0 sp0 str0 (stt0 fz) "MemoryTransactionsModel" nm (.getfield 158, [(11, 71)]) := wk_gf (ci := 11) (r := cq_11) rfl ⟨by decide, "MemoryTransactionsModel", (tb5 84 rfl rfl), Or.inl rfl⟩
theorem lq_17_211 (fz : Bool) (nm : String) : rf_wk (cx0 fz) ocl0 tb0 sp0 str0 (stt0 fz) "MemoryTransactionsModel" nm (.getfield 161, [(11, 72)]) := wk_gf (ci := 11) (r := cq_11) rfl ⟨by decide, "MemoryTransactionsModel", (tb5 85 rfl rfl), Or.inl rfl⟩
theorem lq_17_212 (fz : Bool) (nm : String) : rf_wk (cx0 fz) ocl0 tb0 sp0 str0 (stt0 fz) "MemoryTransactionsModel" nm (.getfield 164, [(11, 73)]) := wk_gf (ci := 11) (r := cq_11) rfl ⟨by decide, "MemoryTransactionsModel", (tb5 86 rfl rfl), Or.inl rfl⟩
theorem lq_17_213 (fz : Bool) (nm : String) : rf_wk (cx0 fz) ocl0 tb0 sp0 str0 (stt0 fz) "MemoryTransactionsModel" nm (.getfield 167, [(11, 74)]) := wk_gf (ci := 11) (r := cq_11) rfl ⟨by decide, "MemoryTransactionsModel", (tb5 87 rfl rfl), Or.inl rfl⟩
theorem lq_17_214 (fz : Bool) (nm : String) : rf_wk (cx0 fz) ocl0 tb0 sp0 str0 (stt0 fz) "MemoryTransactionsModel" nm (.getfield 170, [(11, 75)]) := wk_gf (ci := 11) (r := cq_11) rfl ⟨by decide, "MemoryTransactionsModel", (tb5 88 rfl rfl), Or.inl rfl⟩
theorem lq_17_215 (fz : Bool) (nm : String) : rf_wk (cx0 fz) ocl0 tb0 sp0 str0 (stt0 fz) "MemoryTransactionsModel" nm (.putfield 386, [(11, 69)]) := wk_pf (ci := 11) (r := cq_11) rfl ⟨by decide, "MemoryTransactionsModel", (tb5 82 rfl rfl), Or.inl rfl⟩ rfl
theorem lq_17_216 (fz : Bool) (nm : String) : rf_wk (cx0 fz) ocl0 tb0 sp0 str0 (stt0 fz) "MemoryTransactionsModel" nm (.invokevirtual 383, [(0, 0), (11, 180)]) := wk_iv (ci := 11) (r := cq_11) rfl (mtq_180 fz) (mo_180 fz) (tb6 222 rfl rfl) (tb6 220 rfl rfl) (tbm 79 (by decide +kernel))
theorem lq_17_217 (fz : Bool) (nm : String) : rf_wk (cx0 fz) ocl0 tb0 sp0 str0 (stt0 fz) "MemoryTransactionsModel" nm (.invokevirtual 380, [(0, 1), (11, 181)]) := wk_iv (ci := 11) (r := cq_11) rfl (mtq_181 fz) (mo_181 fz) (tb6 226 rfl rfl) (tb6 224 rfl rfl) (tbm 80 (by decide +kernel))
theorem lq_17_218 (fz : Bool) (nm : String) : rf_wk (cx0 fz) ocl0 tb0 sp0 str0 (stt0 fz) "MemoryTransactionsModel" nm (.getfield 89, [(11, 40)]) := wk_gf (ci := 11) (r := cq_11) rfl ⟨by decide, "MemoryTransactionsModel", (tb5 53 rfl rfl), Or.inl rfl⟩
theorem lq_17_219 (fz : Bool) (nm : String) : rf_wk (cx0 fz) ocl0 tb0 sp0 str0 (stt0 fz) "MemoryTransactionsModel" nm (.getfield 92, [(11, 41)]) := wk_gf (ci := 11) (r := cq_11) rfl ⟨by decide, "MemoryTransactionsModel", (tb5 54 rfl rfl), Or.inl rfl⟩
theorem lq_17_220 (fz : Bool) (nm : String) : rf_wk (cx0 fz) ocl0 tb0 sp0 str0 (stt0 fz) "MemoryTransactionsModel" nm (.ldc2_w 437, [(1, 6364136223846793005)]) := wk_l2 (tb6 237 rfl rfl)
theorem lq_17_221 (fz : Bool) (nm : String) : rf_wk (cx0 fz) ocl0 tb0 sp0 str0 (stt0 fz) "MemoryTransactionsModel" nm (.ldc2_w 439, [(1, 1442695040888963407)]) := wk_l2 (tb6 238 rfl rfl)
theorem lq_17_222 (fz : Bool) (nm : String) : rf_wk (cx0 fz) ocl0 tb0 sp0 str0 (stt0 fz) "MemoryTransactionsModel" nm (.invokevirtual 444, [(0, 1), (11, 195)]) := wk_iv (ci := 11) (r := cq_11) rfl (mtq_195 fz) (mo_195 fz) (tb7 45 rfl rfl) (tb7 43 rfl rfl) (tbm 82 (by decide +kernel))
theorem lq_17_223 (fz : Bool) (nm : String) : rf_wk (cx0 fz) ocl0 tb0 sp0 str0 (stt0 fz) "MemoryTransactionsModel" nm (.invokevirtual 441, [(0, 1), (11, 196)]) := wk_iv (ci := 11) (r := cq_11) rfl (mtq_196 fz) (mo_196 fz) (tb7 49 rfl rfl) (tb7 47 rfl rfl) (tbm 83 (by decide +kernel))
def lk_17 : List (Bool × rf_I) := [(false, (.invokespecial 1, [(10, 0)])), (false, (.newarray .byte, [])), (true, (.putfield 7, [(11, 1)])), (false, (.putfield 13, [(11, 10)])), (false, (.newarray .int, [])), (true, (.putfield 17, [(11, 12)])), (true, (.putfield 21, [(11, 13)])), (true, (.putfield 24, [(11, 14)])), (true, (.putfield 27, [(11, 15)])), (true, (.putfield 30, [(11, 16)])), (true, (.putfield 33, [(11, 17)])), (true, (.putfield 36, [(11, 18)])), (true, (.putfield 39, [(11, 19)])), (true, (.putfield 42, [(11, 20)])), (true, (.putfield 45, [(11, 21)])), (true, (.putfield 48, [(11, 22)])), (true, (.putfield 51, [(11, 23)])), (true, (.putfield 54, [(11, 24)])), (true, (.putfield 57, [(11, 25)])), (true, (.putfield 60, [(11, 26)])), (false, (.newarray .long, [])), (true, (.putfield 63, [(11, 27)])), (true, (.putfield 67, [(11, 29)])), (false, (.newarray .boolean, [])), (true, (.putfield 70, [(11, 32)])), (true, (.putfield 74, [(11, 34)])), (true, (.putfield 77, [(11, 35)])), (true, (.putfield 80, [(11, 36)])), (true, (.putfield 83, [(11, 38)])), (true, (.putfield 86, [(11, 39)])), (true, (.putfield 89, [(11, 40)])), (true, (.putfield 92, [(11, 41)])), (true, (.putfield 95, [(11, 43)])), (true, (.putfield 98, [(11, 44)])), (true, (.putfield 101, [(11, 45)])), (true, (.putfield 104, [(11, 46)])), (true, (.putfield 107, [(11, 47)])), (true, (.putfield 110, [(11, 48)])), (true, (.putfield 113, [(11, 49)])), (true, (.putfield 116, [(11, 50)])), (true, (.putfield 119, [(11, 51)])), (true, (.putfield 122, [(11, 53)])), (true, (.putfield 125, [(11, 54)])), (true, (.putfield 128, [(11, 56)])), (true, (.putfield 131, [(11, 57)])), (true, (.putfield 134, [(11, 59)])), (true, (.putfield 137, [(11, 61)])), (true, (.putfield 140, [(11, 62)])), (true, (.putfield 143, [(11, 63)])), (true, (.putfield 146, [(11, 64)])), (true, (.putfield 149, [(11, 67)])), (true, (.putfield 152, [(11, 68)])), (true, (.putfield 155, [(11, 70)])), (true, (.putfield 158, [(11, 71)])), (true, (.putfield 161, [(11, 72)])), (true, (.putfield 164, [(11, 73)])), (true, (.putfield 167, [(11, 74)])), (true, (.putfield 170, [(11, 75)])), (false, (.putfield 173, [(11, 0)])), (false, (.getfield 176, [(11, 2)])), (false, (.getfield 7, [(11, 1)])), (false, (.putfield 176, [(11, 2)])), (false, (.getfield 310, [(11, 11)])), (false, (.putfield 253, [(11, 28)])), (false, (.getfield 17, [(11, 12)])), (false, (.getfield 253, [(11, 28)])), (false, (.getfield 21, [(11, 13)])), (false, (.getfield 24, [(11, 14)])), (false, (.getfield 30, [(11, 16)])), (false, (.putfield 199, [(11, 3)])), (false, (.putfield 240, [(11, 9)])), (false, (.invokevirtual 313, [(0, 0), (11, 131)])), (false, (.getfield 240, [(11, 9)])), (false, (.putfield 310, [(11, 11)])), (false, (.putfield 283, [(11, 37)])), (false, (.getfield 74, [(11, 34)])), (false, (.getfield 77, [(11, 35)])), (false, (.getfield 80, [(11, 36)])), (false, (.getfield 27, [(11, 15)])), (false, (.invokevirtual 250, [(0, 0), (11, 132)])), (false, (.getfield 209, [(11, 4)])), (false, (.getfield 283, [(11, 37)])), (false, (.invokevirtual 244, [(0, 1), (11, 138)])), (false, (.invokevirtual 247, [(0, 0), (11, 139)])), (false, (.invokevirtual 286, [(0, 0), (11, 140)])), (false, (.invokevirtual 289, [(0, 0), (11, 143)])), (false, (.getfield 199, [(11, 3)])), (false, (.invokevirtual 202, [(0, 1), (11, 133)])), (false, (.putfield 206, [(11, 5)])), (false, (.putfield 209, [(11, 4)])), (false, (.invokestatic 212, [(0, 1), (0, 134)])), (false, (.putfield 216, [(11, 6)])), (false, (.invokestatic 219, [(0, 1), (0, 135)])), (false, (.invokestatic 223, [(0, 1), (0, 136)])), (false, (.putfield 226, [(11, 7)])), (false, (.ldc2_w 230, [(1, 10)])), (false, (.getfield 226, [(11, 7)])), (false, (.ldc2_w 232, [(1, 48)])), (false, (.putfield 234, [(11, 8)])), (false, (.invokestatic 237, [(0, 1), (0, 137)])), (false, (.ldc2_w 179, [(1, 26982)])), (false, (.ldc2_w 181, [(1, 1701606245)])), (false, (.ldc2_w 183, [(1, 512852847717)])), (false, (.ldc2_w 185, [(1, 491328402041)])), (false, (.ldc2_w 187, [(1, 499968536439)])), (false, (.ldc2_w 189, [(1, 111503598970226)])), (false, (.ldc2_w 191, [(1, 28530)])), (false, (.ldc2_w 193, [(1, 7631481)])), (false, (.ldc2_w 195, [(1, 426836779880)])), (false, (.ldc2_w 197, [(1, 107118487239027)])), (false, (.getfield 234, [(11, 8)])), (false, (.getfield 206, [(11, 5)])), (false, (.getfield 33, [(11, 17)])), (false, (.invokevirtual 292, [(0, 2), (11, 141)])), (false, (.invokevirtual 296, [(0, 1), (11, 142)])), (false, (.getfield 216, [(11, 6)])), (false, (.getfield 54, [(11, 24)])), (false, (.invokevirtual 299, [(0, 0), (11, 144)])), (false, (.invokevirtual 303, [(0, 1), (11, 145)])), (false, (.getfield 45, [(11, 21)])), (false, (.invokevirtual 306, [(0, 1), (11, 146)])), (false, (.getfield 36, [(11, 18)])), (false, (.getfield 39, [(11, 19)])), (false, (.getfield 42, [(11, 20)])), (false, (.getfield 48, [(11, 22)])), (false, (.getfield 51, [(11, 23)])), (false, (.putfield 256, [(11, 30)])), (false, (.putfield 266, [(11, 31)])), (false, (.putfield 269, [(11, 33)])), (false, (.getfield 70, [(11, 32)])), (false, (.invokevirtual 272, [(0, 1), (11, 147)])), (false, (.getfield 269, [(11, 33)])), (false, (.invokevirtual 276, [(0, 1), (11, 150)])), (false, (.getfield 256, [(11, 30)])), (false, (.getfield 266, [(11, 31)])), (false, (.invokevirtual 280, [(0, 0), (11, 149)])), (false, (.invokestatic 259, [(0, 1), (0, 151)])), (false, (.getfield 67, [(11, 29)])), (false, (.invokevirtual 262, [(0, 3), (11, 148)])), (false, (.getfield 57, [(11, 25)])), (false, (.getfield 60, [(11, 26)])), (false, (.getfield 63, [(11, 27)])), (false, (.getfield 13, [(11, 10)])), (false, (.invokevirtual 431, [(0, 1), (11, 155)])), (false, (.invokevirtual 434, [(0, 1), (11, 156)])), (false, (.getfield 98, [(11, 44)])), (false, (.getfield 101, [(11, 45)])), (false, (.putfield 319, [(11, 42)])), (false, (.invokevirtual 389, [(0, 1), (11, 157)])), (false, (.invokevirtual 325, [(0, 0), (11, 158)])), (false, (.getfield 104, [(11, 46)])), (false, (.getfield 113, [(11, 49)])), (false, (.invokevirtual 405, [(0, 1), (11, 159)])), (false, (.ldc2_w 408, [(1, 18446744073709551613)])), (false, (.putfield 342, [(11, 66)])), (false, (.invokevirtual 395, [(0, 0), (11, 162)])), (false, (.invokevirtual 410, [(0, 1), (11, 173)])), (false, (.invokevirtual 413, [(0, 1), (11, 174)])), (false, (.getfield 110, [(11, 48)])), (false, (.invokevirtual 416, [(0, 1), (11, 175)])), (false, (.getfield 342, [(11, 66)])), (false, (.invokevirtual 419, [(0, 2), (11, 176)])), (false, (.invokevirtual 423, [(0, 0), (11, 179)])), (false, (.ldc2_w 426, [(1, 18446744073709551614)])), (false, (.getfield 386, [(11, 69)])), (false, (.invokevirtual 428, [(0, 0), (11, 182)])), (false, (.invokevirtual 392, [(0, 1), (11, 160)])), (false, (.getfield 107, [(11, 47)])), (false, (.invokevirtual 398, [(0, 6), (11, 177)])), (false, (.invokevirtual 402, [(0, 1), (11, 178)])), (false, (.putfield 316, [(11, 52)])), (false, (.getfield 122, [(11, 53)])), (false, (.getfield 116, [(11, 50)])), (false, (.getfield 125, [(11, 54)])), (false, (.getfield 119, [(11, 51)])), (false, (.getfield 316, [(11, 52)])), (false, (.getfield 86, [(11, 39)])), (false, (.getfield 319, [(11, 42)])), (false, (.invokevirtual 345, [(0, 1), (11, 161)])), (false, (.getfield 95, [(11, 43)])), (false, (.putfield 322, [(11, 55)])), (false, (.putfield 348, [(11, 58)])), (false, (.getfield 131, [(11, 57)])), (false, (.putfield 351, [(11, 60)])), (false, (.getfield 351, [(11, 60)])), (false, (.putfield 329, [(11, 65)])), (false, (.invokevirtual 357, [(0, 2), (11, 163)])), (false, (.getfield 329, [(11, 65)])), (false, (.invokevirtual 361, [(0, 1), (11, 166)])), (false, (.getfield 128, [(11, 56)])), (false, (.getfield 322, [(11, 55)])), (false, (.invokevirtual 354, [(0, 1), (11, 170)])), (false, (.invokevirtual 364, [(0, 2), (11, 169)])), (false, (.invokevirtual 367, [(0, 1), (11, 171)])), (false, (.getfield 134, [(11, 59)])), (false, (.getfield 348, [(11, 58)])), (false, (.invokevirtual 370, [(0, 1), (11, 172)])), (false, (.getfield 149, [(11, 67)])), (false, (.getfield 152, [(11, 68)])), (false, (.invokevirtual 332, [(0, 1), (11, 164)])), (false, (.invokevirtual 336, [(0, 3), (11, 165)])), (false, (.getfield 83, [(11, 38)])), (false, (.ldc2_w 340, [(1, 18446744073709551615)])), (false, (.invokevirtual 373, [(0, 2), (11, 167)])), (false, (.invokevirtual 377, [(0, 1), (11, 168)])), (false, (.getfield 137, [(11, 61)])), (false, (.getfield 146, [(11, 64)])), (false, (.getfield 140, [(11, 62)])), (false, (.getfield 143, [(11, 63)])), (false, (.getfield 155, [(11, 70)])), (false, (.getfield 158, [(11, 71)])), (false, (.getfield 161, [(11, 72)])), (false, (.getfield 164, [(11, 73)])), (false, (.getfield 167, [(11, 74)])), (false, (.getfield 170, [(11, 75)])), (false, (.putfield 386, [(11, 69)])), (false, (.invokevirtual 383, [(0, 0), (11, 180)])), (false, (.invokevirtual 380, [(0, 1), (11, 181)])), (false, (.getfield 89, [(11, 40)])), (false, (.getfield 92, [(11, 41)])), (false, (.ldc2_w 437, [(1, 6364136223846793005)])), (false, (.ldc2_w 439, [(1, 1442695040888963407)])), (false, (.invokevirtual 444, [(0, 1), (11, 195)])), (false, (.invokevirtual 441, [(0, 1), (11, 196)]))]
set_option maxRecDepth 100000 in
theorem lk_17_ok (fz : Bool) : ∀ e ∈ lk_17, ∀ nm : String, (e.1 = true → nm = "<init>") → rf_wk (cx0 fz) ocl0 tb0 sp0 str0 (stt0 fz) (nmO 17) nm e.2 := List.forall_mem_cons.mpr ⟨(fun nm _ => lq_17_0 fz nm), List.forall_mem_cons.mpr ⟨(fun nm _ => lq_17_1 fz nm), List.forall_mem_cons.mpr ⟨(fun nm hn => lq_17_2 fz nm (hn rfl)), List.forall_mem_cons.mpr ⟨(fun nm _ => lq_17_3 fz nm), List.forall_mem_cons.mpr ⟨(fun nm _ => lq_17_4 fz nm), List.forall_mem_cons.mpr ⟨(fun nm hn => lq_17_5 fz nm (hn rfl)), List.forall_mem_cons.mpr ⟨(fun nm hn => lq_17_6 fz nm (hn rfl)), List.forall_mem_cons.mpr ⟨(fun nm hn => lq_17_7 fz nm (hn rfl)), List.forall_mem_cons.mpr ⟨(fun nm hn => lq_17_8 fz nm (hn rfl)), List.forall_mem_cons.mpr ⟨(fun nm hn => lq_17_9 fz nm (hn rfl)), List.forall_mem_cons.mpr ⟨(fun nm hn => lq_17_10 fz nm (hn rfl)), List.forall_mem_cons.mpr ⟨(fun nm hn => lq_17_11 fz nm (hn rfl)), List.forall_mem_cons.mpr ⟨(fun nm hn => lq_17_12 fz nm (hn rfl)), List.forall_mem_cons.mpr ⟨(fun nm hn => lq_17_13 fz nm (hn rfl)), List.forall_mem_cons.mpr ⟨(fun nm hn => lq_17_14 fz nm (hn rfl)), List.forall_mem_cons.mpr ⟨(fun nm hn => lq_17_15 fz nm (hn rfl)), List.forall_mem_cons.mpr ⟨(fun nm hn => lq_17_16 fz nm (hn rfl)), List.forall_mem_cons.mpr ⟨(fun nm hn => lq_17_17 fz nm (hn rfl)), List.forall_mem_cons.mpr ⟨(fun nm hn => lq_17_18 fz nm (hn rfl)), List.forall_mem_cons.mpr ⟨(fun nm hn => lq_17_19 fz nm (hn rfl)), List.forall_mem_cons.mpr ⟨(fun nm _ => lq_17_20 fz nm), List.forall_mem_cons.mpr ⟨(fun nm hn => lq_17_21 fz nm (hn rfl)), List.forall_mem_cons.mpr ⟨(fun nm hn => lq_17_22 fz nm (hn rfl)), List.forall_mem_cons.mpr ⟨(fun nm _ => lq_17_23 fz nm), List.forall_mem_cons.mpr ⟨(fun nm hn => lq_17_24 fz nm (hn rfl)), List.forall_mem_cons.mpr ⟨(fun nm hn => lq_17_25 fz nm (hn rfl)), List.forall_mem_cons.mpr ⟨(fun nm hn => lq_17_26 fz nm (hn rfl)), List.forall_mem_cons.mpr ⟨(fun nm hn => lq_17_27 fz nm (hn rfl)), List.forall_mem_cons.mpr ⟨(fun nm hn => lq_17_28 fz nm (hn rfl)), List.forall_mem_cons.mpr ⟨(fun nm hn => lq_17_29 fz nm (hn rfl)), List.forall_mem_cons.mpr ⟨(fun nm hn => lq_17_30 fz nm (hn rfl)), List.forall_mem_cons.mpr ⟨(fun nm hn => lq_17_31 fz nm (hn rfl)), List.forall_mem_cons.mpr ⟨(fun nm hn => lq_17_32 fz nm (hn rfl)), List.forall_mem_cons.mpr ⟨(fun nm hn => lq_17_33 fz nm (hn rfl)), List.forall_mem_cons.mpr ⟨(fun nm hn => lq_17_34 fz nm (hn rfl)), List.forall_mem_cons.mpr ⟨(fun nm hn => lq_17_35 fz nm (hn rfl)), List.forall_mem_cons.mpr ⟨(fun nm hn => lq_17_36 fz nm (hn rfl)), List.forall_mem_cons.mpr ⟨(fun nm hn => lq_17_37 fz nm (hn rfl)), List.forall_mem_cons.mpr ⟨(fun nm hn => lq_17_38 fz nm (hn rfl)), List.forall_mem_cons.mpr ⟨(fun nm hn => lq_17_39 fz nm (hn rfl)), List.forall_mem_cons.mpr ⟨(fun nm hn => lq_17_40 fz nm (hn rfl)), List.forall_mem_cons.mpr ⟨(fun nm hn => lq_17_41 fz nm (hn rfl)), List.forall_mem_cons.mpr ⟨(fun nm hn => lq_17_42 fz nm (hn rfl)), List.forall_mem_cons.mpr ⟨(fun nm hn => lq_17_43 fz nm (hn rfl)), List.forall_mem_cons.mpr ⟨(fun nm hn => lq_17_44 fz nm (hn rfl)), List.forall_mem_cons.mpr ⟨(fun nm hn => lq_17_45 fz nm (hn rfl)), List.forall_mem_cons.mpr ⟨(fun nm hn => lq_17_46 fz nm (hn rfl)), List.forall_mem_cons.mpr ⟨(fun nm hn => lq_17_47 fz nm (hn rfl)), List.forall_mem_cons.mpr ⟨(fun nm hn => lq_17_48 fz nm (hn rfl)), List.forall_mem_cons.mpr ⟨(fun nm hn => lq_17_49 fz nm (hn rfl)), List.forall_mem_cons.mpr ⟨(fun nm hn => lq_17_50 fz nm (hn rfl)), List.forall_mem_cons.mpr ⟨(fun nm hn => lq_17_51 fz nm (hn rfl)), List.forall_mem_cons.mpr ⟨(fun nm hn => lq_17_52 fz nm (hn rfl)), List.forall_mem_cons.mpr ⟨(fun nm hn => lq_17_53 fz nm (hn rfl)), List.forall_mem_cons.mpr ⟨(fun nm hn => lq_17_54 fz nm (hn rfl)), List.forall_mem_cons.mpr ⟨(fun nm hn => lq_17_55 fz nm (hn rfl)), List.forall_mem_cons.mpr ⟨(fun nm hn => lq_17_56 fz nm (hn rfl)), List.forall_mem_cons.mpr ⟨(fun nm hn => lq_17_57 fz nm (hn rfl)), List.forall_mem_cons.mpr ⟨(fun nm _ => lq_17_58 fz nm), List.forall_mem_cons.mpr ⟨(fun nm _ => lq_17_59 fz nm), List.forall_mem_cons.mpr ⟨(fun nm _ => lq_17_60 fz nm), List.forall_mem_cons.mpr ⟨(fun nm _ => lq_17_61 fz nm), List.forall_mem_cons.mpr ⟨(fun nm _ => lq_17_62 fz nm), List.forall_mem_cons.mpr ⟨(fun nm _ => lq_17_63 fz nm), List.forall_mem_cons.mpr ⟨(fun nm _ => lq_17_64 fz nm), List.forall_mem_cons.mpr ⟨(fun nm _ => lq_17_65 fz nm), List.forall_mem_cons.mpr ⟨(fun nm _ => lq_17_66 fz nm), List.forall_mem_cons.mpr ⟨(fun nm _ => lq_17_67 fz nm), List.forall_mem_cons.mpr ⟨(fun nm _ => lq_17_68 fz nm), List.forall_mem_cons.mpr ⟨(fun nm _ => lq_17_69 fz nm), List.forall_mem_cons.mpr ⟨(fun nm _ => lq_17_70 fz nm), List.forall_mem_cons.mpr ⟨(fun nm _ => lq_17_71 fz nm), List.forall_mem_cons.mpr ⟨(fun nm _ => lq_17_72 fz nm), List.forall_mem_cons.mpr ⟨(fun nm _ => lq_17_73 fz nm), List.forall_mem_cons.mpr ⟨(fun nm _ => lq_17_74 fz nm), List.forall_mem_cons.mpr ⟨(fun nm _ => lq_17_75 fz nm), List.forall_mem_cons.mpr ⟨(fun nm _ => lq_17_76 fz nm), List.forall_mem_cons.mpr ⟨(fun nm _ => lq_17_77 fz nm), List.forall_mem_cons.mpr ⟨(fun nm _ => lq_17_78 fz nm), List.forall_mem_cons.mpr ⟨(fun nm _ => lq_17_79 fz nm), List.forall_mem_cons.mpr ⟨(fun nm _ => lq_17_80 fz nm), List.forall_mem_cons.mpr ⟨(fun nm _ => lq_17_81 fz nm), List.forall_mem_cons.mpr ⟨(fun nm _ => lq_17_82 fz nm), List.forall_mem_cons.mpr ⟨(fun nm _ => lq_17_83 fz nm), List.forall_mem_cons.mpr ⟨(fun nm _ => lq_17_84 fz nm), List.forall_mem_cons.mpr ⟨(fun nm _ => lq_17_85 fz nm), List.forall_mem_cons.mpr ⟨(fun nm _ => lq_17_86 fz nm), List.forall_mem_cons.mpr ⟨(fun nm _ => lq_17_87 fz nm), List.forall_mem_cons.mpr ⟨(fun nm _ => lq_17_88 fz nm), List.forall_mem_cons.mpr ⟨(fun nm _ => lq_17_89 fz nm), List.forall_mem_cons.mpr ⟨(fun nm _ => lq_17_90 fz nm), List.forall_mem_cons.mpr ⟨(fun nm _ => lq_17_91 fz nm), List.forall_mem_cons.mpr ⟨(fun nm _ => lq_17_92 fz nm), List.forall_mem_cons.mpr ⟨(fun nm _ => lq_17_93 fz nm), List.forall_mem_cons.mpr ⟨(fun nm _ => lq_17_94 fz nm), List.forall_mem_cons.mpr ⟨(fun nm _ => lq_17_95 fz nm), List.forall_mem_cons.mpr ⟨(fun nm _ => lq_17_96 fz nm), List.forall_mem_cons.mpr ⟨(fun nm _ => lq_17_97 fz nm), List.forall_mem_cons.mpr ⟨(fun nm _ => lq_17_98 fz nm), List.forall_mem_cons.mpr ⟨(fun nm _ => lq_17_99 fz nm), List.forall_mem_cons.mpr ⟨(fun nm _ => lq_17_100 fz nm), List.forall_mem_cons.mpr ⟨(fun nm _ => lq_17_101 fz nm), List.forall_mem_cons.mpr ⟨(fun nm _ => lq_17_102 fz nm), List.forall_mem_cons.mpr ⟨(fun nm _ => lq_17_103 fz nm), List.forall_mem_cons.mpr ⟨(fun nm _ => lq_17_104 fz nm), List.forall_mem_cons.mpr ⟨(fun nm _ => lq_17_105 fz nm), List.forall_mem_cons.mpr ⟨(fun nm _ => lq_17_106 fz nm), List.forall_mem_cons.mpr ⟨(fun nm _ => lq_17_107 fz nm), List.forall_mem_cons.mpr ⟨(fun nm _ => lq_17_108 fz nm), List.forall_mem_cons.mpr ⟨(fun nm _ => lq_17_109 fz nm), List.forall_mem_cons.mpr ⟨(fun nm _ => lq_17_110 fz nm), List.forall_mem_cons.mpr ⟨(fun nm _ => lq_17_111 fz nm), List.forall_mem_cons.mpr ⟨(fun nm _ => lq_17_112 fz nm), List.forall_mem_cons.mpr ⟨(fun nm _ => lq_17_113 fz nm), List.forall_mem_cons.mpr ⟨(fun nm _ => lq_17_114 fz nm), List.forall_mem_cons.mpr ⟨(fun nm _ => lq_17_115 fz nm), List.forall_mem_cons.mpr ⟨(fun nm _ => lq_17_116 fz nm), List.forall_mem_cons.mpr ⟨(fun nm _ => lq_17_117 fz nm), List.forall_mem_cons.mpr ⟨(fun nm _ => lq_17_118 fz nm), List.forall_mem_cons.mpr ⟨(fun nm _ => lq_17_119 fz nm), List.forall_mem_cons.mpr ⟨(fun nm _ => lq_17_120 fz nm), List.forall_mem_cons.mpr ⟨(fun nm _ => lq_17_121 fz nm), List.forall_mem_cons.mpr ⟨(fun nm _ => lq_17_122 fz nm), List.forall_mem_cons.mpr ⟨(fun nm _ => lq_17_123 fz nm), List.forall_mem_cons.mpr ⟨(fun nm _ => lq_17_124 fz nm), List.forall_mem_cons.mpr ⟨(fun nm _ => lq_17_125 fz nm), List.forall_mem_cons.mpr ⟨(fun nm _ => lq_17_126 fz nm), List.forall_mem_cons.mpr ⟨(fun nm _ => lq_17_127 fz nm), List.forall_mem_cons.mpr ⟨(fun nm _ => lq_17_128 fz nm), List.forall_mem_cons.mpr ⟨(fun nm _ => lq_17_129 fz nm), List.forall_mem_cons.mpr ⟨(fun nm _ => lq_17_130 fz nm), List.forall_mem_cons.mpr ⟨(fun nm _ => lq_17_131 fz nm), List.forall_mem_cons.mpr ⟨(fun nm _ => lq_17_132 fz nm), List.forall_mem_cons.mpr ⟨(fun nm _ => lq_17_133 fz nm), List.forall_mem_cons.mpr ⟨(fun nm _ => lq_17_134 fz nm), List.forall_mem_cons.mpr ⟨(fun nm _ => lq_17_135 fz nm), List.forall_mem_cons.mpr ⟨(fun nm _ => lq_17_136 fz nm), List.forall_mem_cons.mpr ⟨(fun nm _ => lq_17_137 fz nm), List.forall_mem_cons.mpr ⟨(fun nm _ => lq_17_138 fz nm), List.forall_mem_cons.mpr ⟨(fun nm _ => lq_17_139 fz nm), List.forall_mem_cons.mpr ⟨(fun nm _ => lq_17_140 fz nm), List.forall_mem_cons.mpr ⟨(fun nm _ => lq_17_141 fz nm), List.forall_mem_cons.mpr ⟨(fun nm _ => lq_17_142 fz nm), List.forall_mem_cons.mpr ⟨(fun nm _ => lq_17_143 fz nm), List.forall_mem_cons.mpr ⟨(fun nm _ => lq_17_144 fz nm), List.forall_mem_cons.mpr ⟨(fun nm _ => lq_17_145 fz nm), List.forall_mem_cons.mpr ⟨(fun nm _ => lq_17_146 fz nm), List.forall_mem_cons.mpr ⟨(fun nm _ => lq_17_147 fz nm), List.forall_mem_cons.mpr ⟨(fun nm _ => lq_17_148 fz nm), List.forall_mem_cons.mpr ⟨(fun nm _ => lq_17_149 fz nm), List.forall_mem_cons.mpr ⟨(fun nm _ => lq_17_150 fz nm), List.forall_mem_cons.mpr ⟨(fun nm _ => lq_17_151 fz nm), List.forall_mem_cons.mpr ⟨(fun nm _ => lq_17_152 fz nm), List.forall_mem_cons.mpr ⟨(fun nm _ => lq_17_153 fz nm), List.forall_mem_cons.mpr ⟨(fun nm _ => lq_17_154 fz nm), List.forall_mem_cons.mpr ⟨(fun nm _ => lq_17_155 fz nm), List.forall_mem_cons.mpr ⟨(fun nm _ => lq_17_156 fz nm), List.forall_mem_cons.mpr ⟨(fun nm _ => lq_17_157 fz nm), List.forall_mem_cons.mpr ⟨(fun nm _ => lq_17_158 fz nm), List.forall_mem_cons.mpr ⟨(fun nm _ => lq_17_159 fz nm), List.forall_mem_cons.mpr ⟨(fun nm _ => lq_17_160 fz nm), List.forall_mem_cons.mpr ⟨(fun nm _ => lq_17_161 fz nm), List.forall_mem_cons.mpr ⟨(fun nm _ => lq_17_162 fz nm), List.forall_mem_cons.mpr ⟨(fun nm _ => lq_17_163 fz nm), List.forall_mem_cons.mpr ⟨(fun nm _ => lq_17_164 fz nm), List.forall_mem_cons.mpr ⟨(fun nm _ => lq_17_165 fz nm), List.forall_mem_cons.mpr ⟨(fun nm _ => lq_17_166 fz nm), List.forall_mem_cons.mpr ⟨(fun nm _ => lq_17_167 fz nm), List.forall_mem_cons.mpr ⟨(fun nm _ => lq_17_168 fz nm), List.forall_mem_cons.mpr ⟨(fun nm _ => lq_17_169 fz nm), List.forall_mem_cons.mpr ⟨(fun nm _ => lq_17_170 fz nm), List.forall_mem_cons.mpr ⟨(fun nm _ => lq_17_171 fz nm), List.forall_mem_cons.mpr ⟨(fun nm _ => lq_17_172 fz nm), List.forall_mem_cons.mpr ⟨(fun nm _ => lq_17_173 fz nm), List.forall_mem_cons.mpr ⟨(fun nm _ => lq_17_174 fz nm), List.forall_mem_cons.mpr ⟨(fun nm _ => lq_17_175 fz nm), List.forall_mem_cons.mpr ⟨(fun nm _ => lq_17_176 fz nm), List.forall_mem_cons.mpr ⟨(fun nm _ => lq_17_177 fz nm), List.forall_mem_cons.mpr ⟨(fun nm _ => lq_17_178 fz nm), List.forall_mem_cons.mpr ⟨(fun nm _ => lq_17_179 fz nm), List.forall_mem_cons.mpr ⟨(fun nm _ => lq_17_180 fz nm), List.forall_mem_cons.mpr ⟨(fun nm _ => lq_17_181 fz nm), List.forall_mem_cons.mpr ⟨(fun nm _ => lq_17_182 fz nm), List.forall_mem_cons.mpr ⟨(fun nm _ => lq_17_183 fz nm), List.forall_mem_cons.mpr ⟨(fun nm _ => lq_17_184 fz nm), List.forall_mem_cons.mpr ⟨(fun nm _ => lq_17_185 fz nm), List.forall_mem_cons.mpr ⟨(fun nm _ => lq_17_186 fz nm), List.forall_mem_cons.mpr ⟨(fun nm _ => lq_17_187 fz nm), List.forall_mem_cons.mpr ⟨(fun nm _ => lq_17_188 fz nm), List.forall_mem_cons.mpr ⟨(fun nm _ => lq_17_189 fz nm), List.forall_mem_cons.mpr ⟨(fun nm _ => lq_17_190 fz nm), List.forall_mem_cons.mpr ⟨(fun nm _ => lq_17_191 fz nm), List.forall_mem_cons.mpr ⟨(fun nm _ => lq_17_192 fz nm), List.forall_mem_cons.mpr ⟨(fun nm _ => lq_17_193 fz nm), List.forall_mem_cons.mpr ⟨(fun nm _ => lq_17_194 fz nm), List.forall_mem_cons.mpr ⟨(fun nm _ => lq_17_195 fz nm), List.forall_mem_cons.mpr ⟨(fun nm _ => lq_17_196 fz nm), List.forall_mem_cons.mpr ⟨(fun nm _ => lq_17_197 fz nm), List.forall_mem_cons.mpr ⟨(fun nm _ => lq_17_198 fz nm), List.forall_mem_cons.mpr ⟨(fun nm _ => lq_17_199 fz nm), List.forall_mem_cons.mpr ⟨(fun nm _ => lq_17_200 fz nm), List.forall_mem_cons.mpr ⟨(fun nm _ => lq_17_201 fz nm), List.forall_mem_cons.mpr ⟨(fun nm _ => lq_17_202 fz nm), List.forall_mem_cons.mpr ⟨(fun nm _ => lq_17_203 fz nm), List.forall_mem_cons.mpr ⟨(fun nm _ => lq_17_204 fz nm), List.forall_mem_cons.mpr ⟨(fun nm _ => lq_17_205 fz nm), List.forall_mem_cons.mpr ⟨(fun nm _ => lq_17_206 fz nm), List.forall_mem_cons.mpr ⟨(fun nm _ => lq_17_207 fz nm), List.forall_mem_cons.mpr ⟨(fun nm _ => lq_17_208 fz nm), List.forall_mem_cons.mpr ⟨(fun nm _ => lq_17_209 fz nm), List.forall_mem_cons.mpr ⟨(fun nm _ => lq_17_210 fz nm), List.forall_mem_cons.mpr ⟨(fun nm _ => lq_17_211 fz nm), List.forall_mem_cons.mpr ⟨(fun nm _ => lq_17_212 fz nm), List.forall_mem_cons.mpr ⟨(fun nm _ => lq_17_213 fz nm), List.forall_mem_cons.mpr ⟨(fun nm _ => lq_17_214 fz nm), List.forall_mem_cons.mpr ⟨(fun nm _ => lq_17_215 fz nm), List.forall_mem_cons.mpr ⟨(fun nm _ => lq_17_216 fz nm), List.forall_mem_cons.mpr ⟨(fun nm _ => lq_17_217 fz nm), List.forall_mem_cons.mpr ⟨(fun nm _ => lq_17_218 fz nm), List.forall_mem_cons.mpr ⟨(fun nm _ => lq_17_219 fz nm), List.forall_mem_cons.mpr ⟨(fun nm _ => lq_17_220 fz nm), List.forall_mem_cons.mpr ⟨(fun nm _ => lq_17_221 fz nm), List.forall_mem_cons.mpr ⟨(fun nm _ => lq_17_222 fz nm), List.forall_mem_cons.mpr ⟨(fun nm _ => lq_17_223 fz nm), fun _ h => absurd h List.not_mem_nil⟩⟩⟩⟩⟩⟩⟩⟩⟩⟩⟩⟩⟩⟩⟩⟩⟩⟩⟩⟩⟩⟩⟩⟩⟩⟩⟩⟩⟩⟩⟩⟩⟩⟩⟩⟩⟩⟩⟩⟩⟩⟩⟩⟩⟩⟩⟩⟩⟩⟩⟩⟩⟩⟩⟩⟩⟩⟩⟩⟩⟩⟩⟩⟩⟩⟩⟩⟩⟩⟩⟩⟩⟩⟩⟩⟩⟩⟩⟩⟩⟩⟩⟩⟩⟩⟩⟩⟩⟩⟩⟩⟩⟩⟩⟩⟩⟩⟩⟩⟩⟩⟩⟩⟩⟩⟩⟩⟩⟩⟩⟩⟩⟩⟩⟩⟩⟩⟩⟩⟩⟩⟩⟩⟩⟩⟩⟩⟩⟩⟩⟩⟩⟩⟩⟩⟩⟩⟩⟩⟩⟩⟩⟩⟩⟩⟩⟩⟩⟩⟩⟩⟩⟩⟩⟩⟩⟩⟩⟩⟩⟩⟩⟩⟩⟩⟩⟩⟩⟩⟩⟩⟩⟩⟩⟩⟩⟩⟩⟩⟩⟩⟩⟩⟩⟩⟩⟩⟩⟩⟩⟩⟩⟩⟩⟩⟩⟩⟩⟩⟩⟩⟩⟩⟩⟩⟩⟩⟩⟩⟩⟩⟩⟩⟩⟩⟩⟩⟩⟩⟩⟩⟩⟩⟩
theorem lq_18_0 (fz : Bool) (nm : String) : rf_wk (cx0 fz) ocl0 tb0 sp0 str0 (stt0 fz) "java/lang/String" nm (.getstatic 1053, (if fz then [(2, 0)] else [(3, 0)])) := by
  cases fz
  · exact wk_gn (C := "jdk/internal/util/Preconditions") (n := "SIOOBE_FORMATTER") (d := "Ljava/util/function/BiFunction;") (List.mem_of_getElem? (i := 1) rfl) (tb3 41 rfl rfl)
  · exact wk_gr (C := "jdk/internal/util/Preconditions") (n := "SIOOBE_FORMATTER") (d := "Ljava/util/function/BiFunction;") (List.mem_of_getElem? (i := 1) rfl) (tb3 41 rfl rfl)
theorem lq_18_1 (fz : Bool) (nm : String) : rf_wk (cx0 fz) ocl0 tb0 sp0 str0 (stt0 fz) "java/lang/String" nm (.invokestatic 1059, [(0, 3), (0, 31)]) := wk_st (mtq_31 fz) (mo_31 fz) (tb3 44 rfl rfl) (tb3 43 rfl rfl)
def lk_18 (fz : Bool) : List (Bool × rf_I) := [(false, (.getstatic 1053, (if fz then [(2, 0)] else [(3, 0)]))), (false, (.invokestatic 1059, [(0, 3), (0, 31)]))]
set_option maxRecDepth 100000 in
theorem lk_18_ok (fz : Bool) : ∀ e ∈ lk_18 fz, ∀ nm : String, (e.1 = true → nm = "<init>") → rf_wk (cx0 fz) ocl0 tb0 sp0 str0 (stt0 fz) (nmO 18) nm e.2 := List.forall_mem_cons.mpr ⟨(fun nm _ => lq_18_0 fz nm), List.forall_mem_cons.mpr ⟨(fun nm _ => lq_18_1 fz nm), fun _ h => absurd h List.not_mem_nil⟩⟩
def lk0 : Nat → List (Bool × rf_I) := fun c => [lk_0, lk_1, lk_2, lk_3, lk_4, lk_5, lk_6, lk_7, lk_8, lk_9, lk_10, lk_11, lk_12, lk_13, lk_14, lk_15, lk_16, lk_17].getD c []
def lkz (fz : Bool) : Nat → List (Bool × rf_I) := fun c => [lk_0, lk_1, lk_2, lk_3, lk_4, lk_5, lk_6, lk_7, lk_8, lk_9, lk_10, lk_11, lk_12, lk_13, lk_14, lk_15, lk_16, lk_17, lk_18 fz].getD c []
theorem lkz_ok (fz : Bool) : ∀ (c : Nat) (e : Bool × rf_I), e ∈ lkz fz c → ∀ nm : String, (e.1 = true → nm = "<init>") → rf_wk (cx0 fz) ocl0 tb0 sp0 str0 (stt0 fz) (nmO c) nm e.2 := by
  intro c e he
  match c, he with
  | 0, he => exact lk_0_ok fz e he
  | 1, he => exact lk_1_ok fz e he
  | 2, he => exact lk_2_ok fz e he
  | 3, he => exact lk_3_ok fz e he
  | 4, he => exact lk_4_ok fz e he
  | 5, he => exact lk_5_ok fz e he
  | 6, he => exact lk_6_ok fz e he
  | 7, he => exact lk_7_ok fz e he
  | 8, he => exact lk_8_ok fz e he
  | 9, he => exact lk_9_ok fz e he
  | 10, he => exact lk_10_ok fz e he
  | 11, he => exact lk_11_ok fz e he
  | 12, he => exact lk_12_ok fz e he
  | 13, he => exact lk_13_ok fz e he
  | 14, he => exact lk_14_ok fz e he
  | 15, he => exact lk_15_ok fz e he
  | 16, he => exact lk_16_ok fz e he
  | 17, he => exact lk_17_ok fz e he
  | 18, he => exact lk_18_ok fz e he
  | c + 19, he => exact absurd he (by simp [lkz])
end
section
theorem ck_0 (fz : Bool) : rf_mck nmO (lkz fz) mi_0 = true := rf_mck_cg (lk' := lk0) rfl (by decide +kernel)
theorem ck_1 (fz : Bool) : rf_mck nmO (lkz fz) mi_1 = true := rf_mck_cg (lk' := lk0) rfl (by decide +kernel)
theorem ck_2 (fz : Bool) : rf_mck nmO (lkz fz) mi_2 = true := rf_mck_cg (lk' := lk0) rfl (by decide +kernel)
theorem ck_3 (fz : Bool) : rf_mck nmO (lkz fz) mi_3 = true := rf_mck_cg (lk' := lk0) rfl (by decide +kernel)
theorem ck_4 (fz : Bool) : rf_mck nmO (lkz fz) mi_4 = true := rf_mck_cg (lk' := lk0) rfl (by decide +kernel)
theorem ck_5 (fz : Bool) : rf_mck nmO (lkz fz) mi_5 = true := rf_mck_cg (lk' := lk0) rfl (by decide +kernel)
theorem ck_6 (fz : Bool) : rf_mck nmO (lkz fz) mi_6 = true := rf_mck_cg (lk' := lk0) rfl (by decide +kernel)
theorem ck_7 (fz : Bool) : rf_mck nmO (lkz fz) mi_7 = true := rf_mck_cg (lk' := lk0) rfl (by decide +kernel)
theorem ck_8 (fz : Bool) : rf_mck nmO (lkz fz) mi_8 = true := rf_mck_cg (lk' := lk0) rfl (by decide +kernel)
theorem ck_9 (fz : Bool) : rf_mck nmO (lkz fz) mi_9 = true := rf_mck_cg (lk' := lk0) rfl (by decide +kernel)
theorem ck_10 (fz : Bool) : rf_mck nmO (lkz fz) mi_10 = true := rf_mck_cg (lk' := lk0) rfl (by decide +kernel)
theorem ck_11 (fz : Bool) : rf_mck nmO (lkz fz) mi_11 = true := rf_mck_cg (lk' := lk0) rfl (by decide +kernel)
theorem ck_12 (fz : Bool) : rf_mck nmO (lkz fz) mi_12 = true := rf_mck_cg (lk' := lk0) rfl (by decide +kernel)
theorem ck_13 (fz : Bool) : rf_mck nmO (lkz fz) mi_13 = true := rf_mck_cg (lk' := lk0) rfl (by decide +kernel)
theorem ck_14 (fz : Bool) : rf_mck nmO (lkz fz) mi_14 = true := rf_mck_cg (lk' := lk0) rfl (by decide +kernel)
theorem ck_15 (fz : Bool) : rf_mck nmO (lkz fz) mi_15 = true := rf_mck_cg (lk' := lk0) rfl (by decide +kernel)
theorem ck_16 (fz : Bool) : rf_mck nmO (lkz fz) mi_16 = true := rf_mck_cg (lk' := lk0) rfl (by decide +kernel)
theorem ck_17 (fz : Bool) : rf_mck nmO (lkz fz) mi_17 = true := rf_mck_cg (lk' := lk0) rfl (by decide +kernel)
theorem ck_18 (fz : Bool) : rf_mck nmO (lkz fz) mi_18 = true := rf_mck_cg (lk' := lk0) rfl (by decide +kernel)
theorem ck_19 (fz : Bool) : rf_mck nmO (lkz fz) mi_19 = true := rf_mck_cg (lk' := lk0) rfl (by decide +kernel)
theorem ck_20 (fz : Bool) : rf_mck nmO (lkz fz) mi_20 = true := rf_mck_cg (lk' := lk0) rfl (by decide +kernel)
theorem ck_21 (fz : Bool) : rf_mck nmO (lkz fz) mi_21 = true := rf_mck_cg (lk' := lk0) rfl (by decide +kernel)
theorem ck_22 (fz : Bool) : rf_mck nmO (lkz fz) mi_22 = true := rf_mck_cg (lk' := lk0) rfl (by decide +kernel)
theorem ck_23 (fz : Bool) : rf_mck nmO (lkz fz) mi_23 = true := rf_mck_cg (lk' := lk0) rfl (by decide +kernel)
theorem ck_24 (fz : Bool) : rf_mck nmO (lkz fz) mi_24 = true := rf_mck_cg (lk' := lk0) rfl (by decide +kernel)
theorem ck_25 (fz : Bool) : rf_mck nmO (lkz fz) mi_25 = true := rf_mck_cg (lk' := lk0) rfl (by decide +kernel)
theorem ck_26 (fz : Bool) : rf_mck nmO (lkz fz) mi_26 = true := rf_mck_cg (lk' := lk0) rfl (by decide +kernel)
theorem ck_27 (fz : Bool) : rf_mck nmO (lkz fz) mi_27 = true := rf_mck_cg (lk' := lk0) rfl (by decide +kernel)
theorem ck_28 (fz : Bool) : rf_mck nmO (lkz fz) mi_28 = true := rf_mck_cg (lk' := lk0) rfl (by decide +kernel)
theorem ck_29 (fz : Bool) : rf_mck nmO (lkz fz) mi_29 = true := rf_mck_cg (lk' := lk0) rfl (by decide +kernel)
theorem ck_30 (fz : Bool) : rf_mck nmO (lkz fz) (mi_30 fz) = true := by
  cases fz <;> decide +kernel
theorem ck_31 (fz : Bool) : rf_mck nmO (lkz fz) mi_31 = true := rf_mck_cg (lk' := lk0) rfl (by decide +kernel)
theorem ck_32 (fz : Bool) : rf_mck nmO (lkz fz) mi_32 = true := rf_mck_cg (lk' := lk0) rfl (by decide +kernel)
theorem ck_33 (fz : Bool) : rf_mck nmO (lkz fz) mi_33 = true := rf_mck_cg (lk' := lk0) rfl (by decide +kernel)
theorem ck_34 (fz : Bool) : rf_mck nmO (lkz fz) mi_34 = true := rf_mck_cg (lk' := lk0) rfl (by decide +kernel)
theorem ck_35 (fz : Bool) : rf_mck nmO (lkz fz) mi_35 = true := rf_mck_cg (lk' := lk0) rfl (by decide +kernel)
theorem ck_36 (fz : Bool) : rf_mck nmO (lkz fz) mi_36 = true := rf_mck_cg (lk' := lk0) rfl (by decide +kernel)
theorem ck_37 (fz : Bool) : rf_mck nmO (lkz fz) mi_37 = true := rf_mck_cg (lk' := lk0) rfl (by decide +kernel)
theorem ck_38 (fz : Bool) : rf_mck nmO (lkz fz) mi_38 = true := rf_mck_cg (lk' := lk0) rfl (by decide +kernel)
theorem ck_39 (fz : Bool) : rf_mck nmO (lkz fz) mi_39 = true := rf_mck_cg (lk' := lk0) rfl (by decide +kernel)
theorem ck_40 (fz : Bool) : rf_mck nmO (lkz fz) mi_40 = true := rf_mck_cg (lk' := lk0) rfl (by decide +kernel)
theorem ck_41 (fz : Bool) : rf_mck nmO (lkz fz) mi_41 = true := rf_mck_cg (lk' := lk0) rfl (by decide +kernel)
theorem ck_42 (fz : Bool) : rf_mck nmO (lkz fz) mi_42 = true := rf_mck_cg (lk' := lk0) rfl (by decide +kernel)
theorem ck_43 (fz : Bool) : rf_mck nmO (lkz fz) mi_43 = true := rf_mck_cg (lk' := lk0) rfl (by decide +kernel)
theorem ck_44 (fz : Bool) : rf_mck nmO (lkz fz) mi_44 = true := rf_mck_cg (lk' := lk0) rfl (by decide +kernel)
theorem ck_45 (fz : Bool) : rf_mck nmO (lkz fz) mi_45 = true := rf_mck_cg (lk' := lk0) rfl (by decide +kernel)
theorem ck_46 (fz : Bool) : rf_mck nmO (lkz fz) mi_46 = true := rf_mck_cg (lk' := lk0) rfl (by decide +kernel)
theorem ck_47 (fz : Bool) : rf_mck nmO (lkz fz) mi_47 = true := rf_mck_cg (lk' := lk0) rfl (by decide +kernel)
theorem ck_48 (fz : Bool) : rf_mck nmO (lkz fz) mi_48 = true := rf_mck_cg (lk' := lk0) rfl (by decide +kernel)
theorem ck_49 (fz : Bool) : rf_mck nmO (lkz fz) mi_49 = true := rf_mck_cg (lk' := lk0) rfl (by decide +kernel)
theorem ck_50 (fz : Bool) : rf_mck nmO (lkz fz) mi_50 = true := rf_mck_cg (lk' := lk0) rfl (by decide +kernel)
theorem ck_51 (fz : Bool) : rf_mck nmO (lkz fz) mi_51 = true := rf_mck_cg (lk' := lk0) rfl (by decide +kernel)
theorem ck_52 (fz : Bool) : rf_mck nmO (lkz fz) mi_52 = true := rf_mck_cg (lk' := lk0) rfl (by decide +kernel)
theorem ck_53 (fz : Bool) : rf_mck nmO (lkz fz) mi_53 = true := rf_mck_cg (lk' := lk0) rfl (by decide +kernel)
theorem ck_54 (fz : Bool) : rf_mck nmO (lkz fz) mi_54 = true := rf_mck_cg (lk' := lk0) rfl (by decide +kernel)
theorem ck_55 (fz : Bool) : rf_mck nmO (lkz fz) mi_55 = true := rf_mck_cg (lk' := lk0) rfl (by decide +kernel)
theorem ck_56 (fz : Bool) : rf_mck nmO (lkz fz) mi_56 = true := rf_mck_cg (lk' := lk0) rfl (by decide +kernel)
theorem ck_57 (fz : Bool) : rf_mck nmO (lkz fz) mi_57 = true := rf_mck_cg (lk' := lk0) rfl (by decide +kernel)
theorem ck_58 (fz : Bool) : rf_mck nmO (lkz fz) mi_58 = true := rf_mck_cg (lk' := lk0) rfl (by decide +kernel)
theorem ck_59 (fz : Bool) : rf_mck nmO (lkz fz) mi_59 = true := rf_mck_cg (lk' := lk0) rfl (by decide +kernel)
theorem ck_60 (fz : Bool) : rf_mck nmO (lkz fz) mi_60 = true := rf_mck_cg (lk' := lk0) rfl (by decide +kernel)
theorem ck_61 (fz : Bool) : rf_mck nmO (lkz fz) mi_61 = true := rf_mck_cg (lk' := lk0) rfl (by decide +kernel)
theorem ck_62 (fz : Bool) : rf_mck nmO (lkz fz) mi_62 = true := rf_mck_cg (lk' := lk0) rfl (by decide +kernel)
theorem ck_63 (fz : Bool) : rf_mck nmO (lkz fz) mi_63 = true := rf_mck_cg (lk' := lk0) rfl (by decide +kernel)
theorem ck_64 (fz : Bool) : rf_mck nmO (lkz fz) mi_64 = true := rf_mck_cg (lk' := lk0) rfl (by decide +kernel)
theorem ck_65 (fz : Bool) : rf_mck nmO (lkz fz) mi_65 = true := rf_mck_cg (lk' := lk0) rfl (by decide +kernel)
theorem ck_66 (fz : Bool) : rf_mck nmO (lkz fz) mi_66 = true := rf_mck_cg (lk' := lk0) rfl (by decide +kernel)
theorem ck_67 (fz : Bool) : rf_mck nmO (lkz fz) mi_67 = true := rf_mck_cg (lk' := lk0) rfl (by decide +kernel)
theorem ck_68 (fz : Bool) : rf_mck nmO (lkz fz) mi_68 = true := rf_mck_cg (lk' := lk0) rfl (by decide +kernel)
theorem ck_69 (fz : Bool) : rf_mck nmO (lkz fz) mi_69 = true := rf_mck_cg (lk' := lk0) rfl (by decide +kernel)
theorem ck_70 (fz : Bool) : rf_mck nmO (lkz fz) mi_70 = true := rf_mck_cg (lk' := lk0) rfl (by decide +kernel)
theorem ck_71 (fz : Bool) : rf_mck nmO (lkz fz) mi_71 = true := rf_mck_cg (lk' := lk0) rfl (by decide +kernel)
theorem ck_72 (fz : Bool) : rf_mck nmO (lkz fz) mi_72 = true := rf_mck_cg (lk' := lk0) rfl (by decide +kernel)
theorem ck_73 (fz : Bool) : rf_mck nmO (lkz fz) mi_73 = true := rf_mck_cg (lk' := lk0) rfl (by decide +kernel)
theorem ck_74 (fz : Bool) : rf_mck nmO (lkz fz) mi_74 = true := rf_mck_cg (lk' := lk0) rfl (by decide +kernel)
theorem ck_75 (fz : Bool) : rf_mck nmO (lkz fz) mi_75 = true := rf_mck_cg (lk' := lk0) rfl (by decide +kernel)
theorem ck_76 (fz : Bool) : rf_mck nmO (lkz fz) mi_76 = true := rf_mck_cg (lk' := lk0) rfl (by decide +kernel)
theorem ck_77 (fz : Bool) : rf_mck nmO (lkz fz) mi_77 = true := rf_mck_cg (lk' := lk0) rfl (by decide +kernel)
theorem ck_78 (fz : Bool) : rf_mck nmO (lkz fz) mi_78 = true := rf_mck_cg (lk' := lk0) rfl (by decide +kernel)
theorem ck_79 (fz : Bool) : rf_mck nmO (lkz fz) mi_79 = true := rf_mck_cg (lk' := lk0) rfl (by decide +kernel)
theorem ck_80 (fz : Bool) : rf_mck nmO (lkz fz) mi_80 = true := rf_mck_cg (lk' := lk0) rfl (by decide +kernel)
theorem ck_81 (fz : Bool) : rf_mck nmO (lkz fz) mi_81 = true := rf_mck_cg (lk' := lk0) rfl (by decide +kernel)
theorem ck_82 (fz : Bool) : rf_mck nmO (lkz fz) mi_82 = true := rf_mck_cg (lk' := lk0) rfl (by decide +kernel)
theorem ck_83 (fz : Bool) : rf_mck nmO (lkz fz) mi_83 = true := rf_mck_cg (lk' := lk0) rfl (by decide +kernel)
theorem ck_84 (fz : Bool) : rf_mck nmO (lkz fz) mi_84 = true := rf_mck_cg (lk' := lk0) rfl (by decide +kernel)
theorem ck_85 (fz : Bool) : rf_mck nmO (lkz fz) mi_85 = true := rf_mck_cg (lk' := lk0) rfl (by decide +kernel)
theorem ck_86 (fz : Bool) : rf_mck nmO (lkz fz) mi_86 = true := rf_mck_cg (lk' := lk0) rfl (by decide +kernel)
theorem ck_87 (fz : Bool) : rf_mck nmO (lkz fz) mi_87 = true := rf_mck_cg (lk' := lk0) rfl (by decide +kernel)
theorem ck_88 (fz : Bool) : rf_mck nmO (lkz fz) mi_88 = true := rf_mck_cg (lk' := lk0) rfl (by decide +kernel)
theorem ck_89 (fz : Bool) : rf_mck nmO (lkz fz) mi_89 = true := rf_mck_cg (lk' := lk0) rfl (by decide +kernel)
theorem ck_90 (fz : Bool) : rf_mck nmO (lkz fz) mi_90 = true := rf_mck_cg (lk' := lk0) rfl (by decide +kernel)
theorem ck_91 (fz : Bool) : rf_mck nmO (lkz fz) mi_91 = true := rf_mck_cg (lk' := lk0) rfl (by decide +kernel)
theorem ck_92 (fz : Bool) : rf_mck nmO (lkz fz) mi_92 = true := rf_mck_cg (lk' := lk0) rfl (by decide +kernel)
theorem ck_93 (fz : Bool) : rf_mck nmO (lkz fz) mi_93 = true := rf_mck_cg (lk' := lk0) rfl (by decide +kernel)
theorem ck_94 (fz : Bool) : rf_mck nmO (lkz fz) mi_94 = true := rf_mck_cg (lk' := lk0) rfl (by decide +kernel)
theorem ck_95 (fz : Bool) : rf_mck nmO (lkz fz) mi_95 = true := rf_mck_cg (lk' := lk0) rfl (by decide +kernel)
theorem ck_96 (fz : Bool) : rf_mck nmO (lkz fz) mi_96 = true := rf_mck_cg (lk' := lk0) rfl (by decide +kernel)
theorem ck_97 (fz : Bool) : rf_mck nmO (lkz fz) mi_97 = true := rf_mck_cg (lk' := lk0) rfl (by decide +kernel)
theorem ck_98 (fz : Bool) : rf_mck nmO (lkz fz) mi_98 = true := rf_mck_cg (lk' := lk0) rfl (by decide +kernel)
theorem ck_99 (fz : Bool) : rf_mck nmO (lkz fz) mi_99 = true := rf_mck_cg (lk' := lk0) rfl (by decide +kernel)
theorem ck_100 (fz : Bool) : rf_mck nmO (lkz fz) mi_100 = true := rf_mck_cg (lk' := lk0) rfl (by decide +kernel)
theorem ck_101 (fz : Bool) : rf_mck nmO (lkz fz) mi_101 = true := rf_mck_cg (lk' := lk0) rfl (by decide +kernel)
theorem ck_102 (fz : Bool) : rf_mck nmO (lkz fz) mi_102 = true := rf_mck_cg (lk' := lk0) rfl (by decide +kernel)
theorem ck_103 (fz : Bool) : rf_mck nmO (lkz fz) mi_103 = true := rf_mck_cg (lk' := lk0) rfl (by decide +kernel)
theorem ck_104 (fz : Bool) : rf_mck nmO (lkz fz) mi_104 = true := rf_mck_cg (lk' := lk0) rfl (by decide +kernel)
theorem ck_105 (fz : Bool) : rf_mck nmO (lkz fz) mi_105 = true := rf_mck_cg (lk' := lk0) rfl (by decide +kernel)
theorem ck_106 (fz : Bool) : rf_mck nmO (lkz fz) mi_106 = true := rf_mck_cg (lk' := lk0) rfl (by decide +kernel)
theorem ck_107 (fz : Bool) : rf_mck nmO (lkz fz) mi_107 = true := rf_mck_cg (lk' := lk0) rfl (by decide +kernel)
theorem ck_108 (fz : Bool) : rf_mck nmO (lkz fz) mi_108 = true := rf_mck_cg (lk' := lk0) rfl (by decide +kernel)
theorem ck_109 (fz : Bool) : rf_mck nmO (lkz fz) mi_109 = true := rf_mck_cg (lk' := lk0) rfl (by decide +kernel)
theorem ck_110 (fz : Bool) : rf_mck nmO (lkz fz) mi_110 = true := rf_mck_cg (lk' := lk0) rfl (by decide +kernel)
theorem ck_111 (fz : Bool) : rf_mck nmO (lkz fz) mi_111 = true := rf_mck_cg (lk' := lk0) rfl (by decide +kernel)
theorem ck_112 (fz : Bool) : rf_mck nmO (lkz fz) mi_112 = true := rf_mck_cg (lk' := lk0) rfl (by decide +kernel)
theorem ck_113 (fz : Bool) : rf_mck nmO (lkz fz) mi_113 = true := rf_mck_cg (lk' := lk0) rfl (by decide +kernel)
theorem ck_114 (fz : Bool) : rf_mck nmO (lkz fz) mi_114 = true := rf_mck_cg (lk' := lk0) rfl (by decide +kernel)
theorem ck_115 (fz : Bool) : rf_mck nmO (lkz fz) mi_115 = true := rf_mck_cg (lk' := lk0) rfl (by decide +kernel)
theorem ck_116 (fz : Bool) : rf_mck nmO (lkz fz) mi_116 = true := rf_mck_cg (lk' := lk0) rfl (by decide +kernel)
theorem ck_117 (fz : Bool) : rf_mck nmO (lkz fz) mi_117 = true := rf_mck_cg (lk' := lk0) rfl (by decide +kernel)
theorem ck_118 (fz : Bool) : rf_mck nmO (lkz fz) mi_118 = true := rf_mck_cg (lk' := lk0) rfl (by decide +kernel)
theorem ck_119 (fz : Bool) : rf_mck nmO (lkz fz) mi_119 = true := rf_mck_cg (lk' := lk0) rfl (by decide +kernel)
theorem ck_120 (fz : Bool) : rf_mck nmO (lkz fz) mi_120 = true := rf_mck_cg (lk' := lk0) rfl (by decide +kernel)
theorem ck_121 (fz : Bool) : rf_mck nmO (lkz fz) mi_121 = true := rf_mck_cg (lk' := lk0) rfl (by decide +kernel)
theorem ck_122 (fz : Bool) : rf_mck nmO (lkz fz) mi_122 = true := rf_mck_cg (lk' := lk0) rfl (by decide +kernel)
theorem ck_123 (fz : Bool) : rf_mck nmO (lkz fz) mi_123 = true := rf_mck_cg (lk' := lk0) rfl (by decide +kernel)
theorem ck_124 (fz : Bool) : rf_mck nmO (lkz fz) mi_124 = true := rf_mck_cg (lk' := lk0) rfl (by decide +kernel)
theorem ck_125 (fz : Bool) : rf_mck nmO (lkz fz) mi_125 = true := rf_mck_cg (lk' := lk0) rfl (by decide +kernel)
theorem ck_126 (fz : Bool) : rf_mck nmO (lkz fz) mi_126 = true := rf_mck_cg (lk' := lk0) rfl (by decide +kernel)
theorem ck_127 (fz : Bool) : rf_mck nmO (lkz fz) mi_127 = true := rf_mck_cg (lk' := lk0) rfl (by decide +kernel)
theorem ck_128 (fz : Bool) : rf_mck nmO (lkz fz) mi_128 = true := rf_mck_cg (lk' := lk0) rfl (by decide +kernel)
theorem ck_129 (fz : Bool) : rf_mck nmO (lkz fz) mi_129 = true := rf_mck_cg (lk' := lk0) rfl (by decide +kernel)
theorem ck_130 (fz : Bool) : rf_mck nmO (lkz fz) mi_130 = true := rf_mck_cg (lk' := lk0) rfl (by decide +kernel)
theorem ck_131 (fz : Bool) : rf_mck nmO (lkz fz) mi_131 = true := rf_mck_cg (lk' := lk0) rfl (by decide +kernel)
theorem ck_132 (fz : Bool) : rf_mck nmO (lkz fz) mi_132 = true := rf_mck_cg (lk' := lk0) rfl (by decide +kernel)
theorem ck_133 (fz : Bool) : rf_mck nmO (lkz fz) mi_133 = true := rf_mck_cg (lk' := lk0) rfl (by decide +kernel)
theorem ck_134 (fz : Bool) : rf_mck nmO (lkz fz) mi_134 = true := rf_mck_cg (lk' := lk0) rfl (by decide +kernel)
theorem ck_135 (fz : Bool) : rf_mck nmO (lkz fz) mi_135 = true := rf_mck_cg (lk' := lk0) rfl (by decide +kernel)
theorem ck_136 (fz : Bool) : rf_mck nmO (lkz fz) mi_136 = true := rf_mck_cg (lk' := lk0) rfl (by decide +kernel)
theorem ck_137 (fz : Bool) : rf_mck nmO (lkz fz) mi_137 = true := rf_mck_cg (lk' := lk0) rfl (by decide +kernel)
theorem ck_138 (fz : Bool) : rf_mck nmO (lkz fz) mi_138 = true := rf_mck_cg (lk' := lk0) rfl (by decide +kernel)
theorem ck_139 (fz : Bool) : rf_mck nmO (lkz fz) mi_139 = true := rf_mck_cg (lk' := lk0) rfl (by decide +kernel)
theorem ck_140 (fz : Bool) : rf_mck nmO (lkz fz) mi_140 = true := rf_mck_cg (lk' := lk0) rfl (by decide +kernel)
theorem ck_141 (fz : Bool) : rf_mck nmO (lkz fz) mi_141 = true := rf_mck_cg (lk' := lk0) rfl (by decide +kernel)
theorem ck_142 (fz : Bool) : rf_mck nmO (lkz fz) mi_142 = true := rf_mck_cg (lk' := lk0) rfl (by decide +kernel)
theorem ck_143 (fz : Bool) : rf_mck nmO (lkz fz) mi_143 = true := rf_mck_cg (lk' := lk0) rfl (by decide +kernel)
theorem ck_144 (fz : Bool) : rf_mck nmO (lkz fz) mi_144 = true := rf_mck_cg (lk' := lk0) rfl (by decide +kernel)
theorem ck_145 (fz : Bool) : rf_mck nmO (lkz fz) mi_145 = true := rf_mck_cg (lk' := lk0) rfl (by decide +kernel)
theorem ck_146 (fz : Bool) : rf_mck nmO (lkz fz) mi_146 = true := rf_mck_cg (lk' := lk0) rfl (by decide +kernel)
theorem ck_147 (fz : Bool) : rf_mck nmO (lkz fz) mi_147 = true := rf_mck_cg (lk' := lk0) rfl (by decide +kernel)
theorem ck_148 (fz : Bool) : rf_mck nmO (lkz fz) mi_148 = true := rf_mck_cg (lk' := lk0) rfl (by decide +kernel)
theorem ck_149 (fz : Bool) : rf_mck nmO (lkz fz) mi_149 = true := rf_mck_cg (lk' := lk0) rfl (by decide +kernel)
theorem ck_150 (fz : Bool) : rf_mck nmO (lkz fz) mi_150 = true := rf_mck_cg (lk' := lk0) rfl (by decide +kernel)
theorem ck_151 (fz : Bool) : rf_mck nmO (lkz fz) mi_151 = true := rf_mck_cg (lk' := lk0) rfl (by decide +kernel)
theorem ck_152 (fz : Bool) : rf_mck nmO (lkz fz) mi_152 = true := rf_mck_cg (lk' := lk0) rfl (by decide +kernel)
theorem ck_153 (fz : Bool) : rf_mck nmO (lkz fz) mi_153 = true := rf_mck_cg (lk' := lk0) rfl (by decide +kernel)
theorem ck_154 (fz : Bool) : rf_mck nmO (lkz fz) mi_154 = true := rf_mck_cg (lk' := lk0) rfl (by decide +kernel)
theorem ck_155 (fz : Bool) : rf_mck nmO (lkz fz) mi_155 = true := rf_mck_cg (lk' := lk0) rfl (by decide +kernel)
theorem ck_156 (fz : Bool) : rf_mck nmO (lkz fz) mi_156 = true := rf_mck_cg (lk' := lk0) rfl (by decide +kernel)
theorem ck_157 (fz : Bool) : rf_mck nmO (lkz fz) mi_157 = true := rf_mck_cg (lk' := lk0) rfl (by decide +kernel)
theorem ck_158 (fz : Bool) : rf_mck nmO (lkz fz) mi_158 = true := rf_mck_cg (lk' := lk0) rfl (by decide +kernel)
theorem ck_159 (fz : Bool) : rf_mck nmO (lkz fz) mi_159 = true := rf_mck_cg (lk' := lk0) rfl (by decide +kernel)
theorem ck_160 (fz : Bool) : rf_mck nmO (lkz fz) mi_160 = true := rf_mck_cg (lk' := lk0) rfl (by decide +kernel)
theorem ck_161 (fz : Bool) : rf_mck nmO (lkz fz) mi_161 = true := rf_mck_cg (lk' := lk0) rfl (by decide +kernel)
theorem ck_162 (fz : Bool) : rf_mck nmO (lkz fz) mi_162 = true := rf_mck_cg (lk' := lk0) rfl (by decide +kernel)
theorem ck_163 (fz : Bool) : rf_mck nmO (lkz fz) mi_163 = true := rf_mck_cg (lk' := lk0) rfl (by decide +kernel)
theorem ck_164 (fz : Bool) : rf_mck nmO (lkz fz) mi_164 = true := rf_mck_cg (lk' := lk0) rfl (by decide +kernel)
theorem ck_165 (fz : Bool) : rf_mck nmO (lkz fz) mi_165 = true := rf_mck_cg (lk' := lk0) rfl (by decide +kernel)
theorem ck_166 (fz : Bool) : rf_mck nmO (lkz fz) mi_166 = true := rf_mck_cg (lk' := lk0) rfl (by decide +kernel)
theorem ck_167 (fz : Bool) : rf_mck nmO (lkz fz) mi_167 = true := rf_mck_cg (lk' := lk0) rfl (by decide +kernel)
theorem ck_168 (fz : Bool) : rf_mck nmO (lkz fz) mi_168 = true := rf_mck_cg (lk' := lk0) rfl (by decide +kernel)
theorem ck_169 (fz : Bool) : rf_mck nmO (lkz fz) mi_169 = true := rf_mck_cg (lk' := lk0) rfl (by decide +kernel)
theorem ck_170 (fz : Bool) : rf_mck nmO (lkz fz) mi_170 = true := rf_mck_cg (lk' := lk0) rfl (by decide +kernel)
theorem ck_171 (fz : Bool) : rf_mck nmO (lkz fz) mi_171 = true := rf_mck_cg (lk' := lk0) rfl (by decide +kernel)
theorem ck_172 (fz : Bool) : rf_mck nmO (lkz fz) mi_172 = true := rf_mck_cg (lk' := lk0) rfl (by decide +kernel)
theorem ck_173 (fz : Bool) : rf_mck nmO (lkz fz) mi_173 = true := rf_mck_cg (lk' := lk0) rfl (by decide +kernel)
theorem ck_174 (fz : Bool) : rf_mck nmO (lkz fz) mi_174 = true := rf_mck_cg (lk' := lk0) rfl (by decide +kernel)
theorem ck_175 (fz : Bool) : rf_mck nmO (lkz fz) mi_175 = true := rf_mck_cg (lk' := lk0) rfl (by decide +kernel)
theorem ck_176 (fz : Bool) : rf_mck nmO (lkz fz) mi_176 = true := rf_mck_cg (lk' := lk0) rfl (by decide +kernel)
theorem ck_177 (fz : Bool) : rf_mck nmO (lkz fz) mi_177 = true := rf_mck_cg (lk' := lk0) rfl (by decide +kernel)
theorem ck_178 (fz : Bool) : rf_mck nmO (lkz fz) mi_178 = true := rf_mck_cg (lk' := lk0) rfl (by decide +kernel)
theorem ck_179 (fz : Bool) : rf_mck nmO (lkz fz) mi_179 = true := rf_mck_cg (lk' := lk0) rfl (by decide +kernel)
theorem ck_180 (fz : Bool) : rf_mck nmO (lkz fz) mi_180 = true := rf_mck_cg (lk' := lk0) rfl (by decide +kernel)
theorem ck_181 (fz : Bool) : rf_mck nmO (lkz fz) mi_181 = true := rf_mck_cg (lk' := lk0) rfl (by decide +kernel)
theorem ck_182 (fz : Bool) : rf_mck nmO (lkz fz) mi_182 = true := rf_mck_cg (lk' := lk0) rfl (by decide +kernel)
theorem ck_183 (fz : Bool) : rf_mck nmO (lkz fz) mi_183 = true := rf_mck_cg (lk' := lk0) rfl (by decide +kernel)
theorem ck_184 (fz : Bool) : rf_mck nmO (lkz fz) mi_184 = true := rf_mck_cg (lk' := lk0) rfl (by decide +kernel)
theorem ck_185 (fz : Bool) : rf_mck nmO (lkz fz) mi_185 = true := rf_mck_cg (lk' := lk0) rfl (by decide +kernel)
theorem ck_186 (fz : Bool) : rf_mck nmO (lkz fz) mi_186 = true := rf_mck_cg (lk' := lk0) rfl (by decide +kernel)
theorem ck_187 (fz : Bool) : rf_mck nmO (lkz fz) mi_187 = true := rf_mck_cg (lk' := lk0) rfl (by decide +kernel)
theorem ck_188 (fz : Bool) : rf_mck nmO (lkz fz) mi_188 = true := rf_mck_cg (lk' := lk0) rfl (by decide +kernel)
theorem ck_189 (fz : Bool) : rf_mck nmO (lkz fz) mi_189 = true := rf_mck_cg (lk' := lk0) rfl (by decide +kernel)
theorem ck_190 (fz : Bool) : rf_mck nmO (lkz fz) mi_190 = true := rf_mck_cg (lk' := lk0) rfl (by decide +kernel)
theorem ck_191 (fz : Bool) : rf_mck nmO (lkz fz) mi_191 = true := rf_mck_cg (lk' := lk0) rfl (by decide +kernel)
theorem ck_192 (fz : Bool) : rf_mck nmO (lkz fz) mi_192 = true := rf_mck_cg (lk' := lk0) rfl (by decide +kernel)
theorem ck_193 (fz : Bool) : rf_mck nmO (lkz fz) mi_193 = true := rf_mck_cg (lk' := lk0) rfl (by decide +kernel)
theorem ck_194 (fz : Bool) : rf_mck nmO (lkz fz) mi_194 = true := rf_mck_cg (lk' := lk0) rfl (by decide +kernel)
theorem ck_195 (fz : Bool) : rf_mck nmO (lkz fz) mi_195 = true := rf_mck_cg (lk' := lk0) rfl (by decide +kernel)
theorem ck_196 (fz : Bool) : rf_mck nmO (lkz fz) mi_196 = true := rf_mck_cg (lk' := lk0) rfl (by decide +kernel)
theorem ck_197 (fz : Bool) : rf_mck nmO (lkz fz) mi_197 = true := rf_mck_cg (lk' := lk0) rfl (by decide +kernel)
set_option maxRecDepth 100000 in
theorem ck_all (fz : Bool) : ∀ e ∈ ml0 fz, rf_mck nmO (lkz fz) e = true := List.forall_mem_cons.mpr ⟨ck_0 fz, List.forall_mem_cons.mpr ⟨ck_1 fz, List.forall_mem_cons.mpr ⟨ck_2 fz, List.forall_mem_cons.mpr ⟨ck_3 fz, List.forall_mem_cons.mpr ⟨ck_4 fz, List.forall_mem_cons.mpr ⟨ck_5 fz, List.forall_mem_cons.mpr ⟨ck_6 fz, List.forall_mem_cons.mpr ⟨ck_7 fz, List.forall_mem_cons.mpr ⟨ck_8 fz, List.forall_mem_cons.mpr ⟨ck_9 fz, List.forall_mem_cons.mpr ⟨ck_10 fz, List.forall_mem_cons.mpr ⟨ck_11 fz, List.forall_mem_cons.mpr ⟨ck_12 fz, List.forall_mem_cons.mpr ⟨ck_13 fz, List.forall_mem_cons.mpr ⟨ck_14 fz, List.forall_mem_cons.mpr ⟨ck_15 fz, List.forall_mem_cons.mpr ⟨ck_16 fz, List.forall_mem_cons.mpr ⟨ck_17 fz, List.forall_mem_cons.mpr ⟨ck_18 fz, List.forall_mem_cons.mpr ⟨ck_19 fz, List.forall_mem_cons.mpr ⟨ck_20 fz, List.forall_mem_cons.mpr ⟨ck_21 fz, List.forall_mem_cons.mpr ⟨ck_22 fz, List.forall_mem_cons.mpr ⟨ck_23 fz, List.forall_mem_cons.mpr ⟨ck_24 fz, List.forall_mem_cons.mpr ⟨ck_25 fz, List.forall_mem_cons.mpr ⟨ck_26 fz, List.forall_mem_cons.mpr ⟨ck_27 fz, List.forall_mem_cons.mpr ⟨ck_28 fz, List.forall_mem_cons.mpr ⟨ck_29 fz, List.forall_mem_cons.mpr ⟨ck_30 fz, List.forall_mem_cons.mpr ⟨ck_31 fz, List.forall_mem_cons.mpr ⟨ck_32 fz, List.forall_mem_cons.mpr ⟨ck_33 fz, List.forall_mem_cons.mpr ⟨ck_34 fz, List.forall_mem_cons.mpr ⟨ck_35 fz, List.forall_mem_cons.mpr ⟨ck_36 fz, List.forall_mem_cons.mpr ⟨ck_37 fz, List.forall_mem_cons.mpr ⟨ck_38 fz, List.forall_mem_cons.mpr ⟨ck_39 fz, List.forall_mem_cons.mpr ⟨ck_40 fz, List.forall_mem_cons.mpr ⟨ck_41 fz, List.forall_mem_cons.mpr ⟨ck_42 fz, List.forall_mem_cons.mpr ⟨ck_43 fz, List.forall_mem_cons.mpr ⟨ck_44 fz, List.forall_mem_cons.mpr ⟨ck_45 fz, List.forall_mem_cons.mpr ⟨ck_46 fz, List.forall_mem_cons.mpr ⟨ck_47 fz, List.forall_mem_cons.mpr ⟨ck_48 fz, List.forall_mem_cons.mpr ⟨ck_49 fz, List.forall_mem_cons.mpr ⟨ck_50 fz, List.forall_mem_cons.mpr ⟨ck_51 fz, List.forall_mem_cons.mpr ⟨ck_52 fz, List.forall_mem_cons.mpr ⟨ck_53 fz, List.forall_mem_cons.mpr ⟨ck_54 fz, List.forall_mem_cons.mpr ⟨ck_55 fz, List.forall_mem_cons.mpr ⟨ck_56 fz, List.forall_mem_cons.mpr ⟨ck_57 fz, List.forall_mem_cons.mpr ⟨ck_58 fz, List.forall_mem_cons.mpr ⟨ck_59 fz, List.forall_mem_cons.mpr ⟨ck_60 fz, List.forall_mem_cons.mpr ⟨ck_61 fz, List.forall_mem_cons.mpr ⟨ck_62 fz, List.forall_mem_cons.mpr ⟨ck_63 fz, List.forall_mem_cons.mpr ⟨ck_64 fz, List.forall_mem_cons.mpr ⟨ck_65 fz, List.forall_mem_cons.mpr ⟨ck_66 fz, List.forall_mem_cons.mpr ⟨ck_67 fz, List.forall_mem_cons.mpr ⟨ck_68 fz, List.forall_mem_cons.mpr ⟨ck_69 fz, List.forall_mem_cons.mpr ⟨ck_70 fz, List.forall_mem_cons.mpr ⟨ck_71 fz, List.forall_mem_cons.mpr ⟨ck_72 fz, List.forall_mem_cons.mpr ⟨ck_73 fz, List.forall_mem_cons.mpr ⟨ck_74 fz, List.forall_mem_cons.mpr ⟨ck_75 fz, List.forall_mem_cons.mpr ⟨ck_76 fz, List.forall_mem_cons.mpr ⟨ck_77 fz, List.forall_mem_cons.mpr ⟨ck_78 fz, List.forall_mem_cons.mpr ⟨ck_79 fz, List.forall_mem_cons.mpr ⟨ck_80 fz, List.forall_mem_cons.mpr ⟨ck_81 fz, List.forall_mem_cons.mpr ⟨ck_82 fz, List.forall_mem_cons.mpr ⟨ck_83 fz, List.forall_mem_cons.mpr ⟨ck_84 fz, List.forall_mem_cons.mpr ⟨ck_85 fz, List.forall_mem_cons.mpr ⟨ck_86 fz, List.forall_mem_cons.mpr ⟨ck_87 fz, List.forall_mem_cons.mpr ⟨ck_88 fz, List.forall_mem_cons.mpr ⟨ck_89 fz, List.forall_mem_cons.mpr ⟨ck_90 fz, List.forall_mem_cons.mpr ⟨ck_91 fz, List.forall_mem_cons.mpr ⟨ck_92 fz, List.forall_mem_cons.mpr ⟨ck_93 fz, List.forall_mem_cons.mpr ⟨ck_94 fz, List.forall_mem_cons.mpr ⟨ck_95 fz, List.forall_mem_cons.mpr ⟨ck_96 fz, List.forall_mem_cons.mpr ⟨ck_97 fz, List.forall_mem_cons.mpr ⟨ck_98 fz, List.forall_mem_cons.mpr ⟨ck_99 fz, List.forall_mem_cons.mpr ⟨ck_100 fz, List.forall_mem_cons.mpr ⟨ck_101 fz, List.forall_mem_cons.mpr ⟨ck_102 fz, List.forall_mem_cons.mpr ⟨ck_103 fz, List.forall_mem_cons.mpr ⟨ck_104 fz, List.forall_mem_cons.mpr ⟨ck_105 fz, List.forall_mem_cons.mpr ⟨ck_106 fz, List.forall_mem_cons.mpr ⟨ck_107 fz, List.forall_mem_cons.mpr ⟨ck_108 fz, List.forall_mem_cons.mpr ⟨ck_109 fz, List.forall_mem_cons.mpr ⟨ck_110 fz, List.forall_mem_cons.mpr ⟨ck_111 fz, List.forall_mem_cons.mpr ⟨ck_112 fz, List.forall_mem_cons.mpr ⟨ck_113 fz, List.forall_mem_cons.mpr ⟨ck_114 fz, List.forall_mem_cons.mpr ⟨ck_115 fz, List.forall_mem_cons.mpr ⟨ck_116 fz, List.forall_mem_cons.mpr ⟨ck_117 fz, List.forall_mem_cons.mpr ⟨ck_118 fz, List.forall_mem_cons.mpr ⟨ck_119 fz, List.forall_mem_cons.mpr ⟨ck_120 fz, List.forall_mem_cons.mpr ⟨ck_121 fz, List.forall_mem_cons.mpr ⟨ck_122 fz, List.forall_mem_cons.mpr ⟨ck_123 fz, List.forall_mem_cons.mpr ⟨ck_124 fz, List.forall_mem_cons.mpr ⟨ck_125 fz, List.forall_mem_cons.mpr ⟨ck_126 fz, List.forall_mem_cons.mpr ⟨ck_127 fz, List.forall_mem_cons.mpr ⟨ck_128 fz, List.forall_mem_cons.mpr ⟨ck_129 fz, List.forall_mem_cons.mpr ⟨ck_130 fz, List.forall_mem_cons.mpr ⟨ck_131 fz, List.forall_mem_cons.mpr ⟨ck_132 fz, List.forall_mem_cons.mpr ⟨ck_133 fz, List.forall_mem_cons.mpr ⟨ck_134 fz, List.forall_mem_cons.mpr ⟨ck_135 fz, List.forall_mem_cons.mpr ⟨ck_136 fz, List.forall_mem_cons.mpr ⟨ck_137 fz, List.forall_mem_cons.mpr ⟨ck_138 fz, List.forall_mem_cons.mpr ⟨ck_139 fz, List.forall_mem_cons.mpr ⟨ck_140 fz, List.forall_mem_cons.mpr ⟨ck_141 fz, List.forall_mem_cons.mpr ⟨ck_142 fz, List.forall_mem_cons.mpr ⟨ck_143 fz, List.forall_mem_cons.mpr ⟨ck_144 fz, List.forall_mem_cons.mpr ⟨ck_145 fz, List.forall_mem_cons.mpr ⟨ck_146 fz, List.forall_mem_cons.mpr ⟨ck_147 fz, List.forall_mem_cons.mpr ⟨ck_148 fz, List.forall_mem_cons.mpr ⟨ck_149 fz, List.forall_mem_cons.mpr ⟨ck_150 fz, List.forall_mem_cons.mpr ⟨ck_151 fz, List.forall_mem_cons.mpr ⟨ck_152 fz, List.forall_mem_cons.mpr ⟨ck_153 fz, List.forall_mem_cons.mpr ⟨ck_154 fz, List.forall_mem_cons.mpr ⟨ck_155 fz, List.forall_mem_cons.mpr ⟨ck_156 fz, List.forall_mem_cons.mpr ⟨ck_157 fz, List.forall_mem_cons.mpr ⟨ck_158 fz, List.forall_mem_cons.mpr ⟨ck_159 fz, List.forall_mem_cons.mpr ⟨ck_160 fz, List.forall_mem_cons.mpr ⟨ck_161 fz, List.forall_mem_cons.mpr ⟨ck_162 fz, List.forall_mem_cons.mpr ⟨ck_163 fz, List.forall_mem_cons.mpr ⟨ck_164 fz, List.forall_mem_cons.mpr ⟨ck_165 fz, List.forall_mem_cons.mpr ⟨ck_166 fz, List.forall_mem_cons.mpr ⟨ck_167 fz, List.forall_mem_cons.mpr ⟨ck_168 fz, List.forall_mem_cons.mpr ⟨ck_169 fz, List.forall_mem_cons.mpr ⟨ck_170 fz, List.forall_mem_cons.mpr ⟨ck_171 fz, List.forall_mem_cons.mpr ⟨ck_172 fz, List.forall_mem_cons.mpr ⟨ck_173 fz, List.forall_mem_cons.mpr ⟨ck_174 fz, List.forall_mem_cons.mpr ⟨ck_175 fz, List.forall_mem_cons.mpr ⟨ck_176 fz, List.forall_mem_cons.mpr ⟨ck_177 fz, List.forall_mem_cons.mpr ⟨ck_178 fz, List.forall_mem_cons.mpr ⟨ck_179 fz, List.forall_mem_cons.mpr ⟨ck_180 fz, List.forall_mem_cons.mpr ⟨ck_181 fz, List.forall_mem_cons.mpr ⟨ck_182 fz, List.forall_mem_cons.mpr ⟨ck_183 fz, List.forall_mem_cons.mpr ⟨ck_184 fz, List.forall_mem_cons.mpr ⟨ck_185 fz, List.forall_mem_cons.mpr ⟨ck_186 fz, List.forall_mem_cons.mpr ⟨ck_187 fz, List.forall_mem_cons.mpr ⟨ck_188 fz, List.forall_mem_cons.mpr ⟨ck_189 fz, List.forall_mem_cons.mpr ⟨ck_190 fz, List.forall_mem_cons.mpr ⟨ck_191 fz, List.forall_mem_cons.mpr ⟨ck_192 fz, List.forall_mem_cons.mpr ⟨ck_193 fz, List.forall_mem_cons.mpr ⟨ck_194 fz, List.forall_mem_cons.mpr ⟨ck_195 fz, List.forall_mem_cons.mpr ⟨ck_196 fz, List.forall_mem_cons.mpr ⟨ck_197 fz, fun _ h => absurd h List.not_mem_nil⟩⟩⟩⟩⟩⟩⟩⟩⟩⟩⟩⟩⟩⟩⟩⟩⟩⟩⟩⟩⟩⟩⟩⟩⟩⟩⟩⟩⟩⟩⟩⟩⟩⟩⟩⟩⟩⟩⟩⟩⟩⟩⟩⟩⟩⟩⟩⟩⟩⟩⟩⟩⟩⟩⟩⟩⟩⟩⟩⟩⟩⟩⟩⟩⟩⟩⟩⟩⟩⟩⟩⟩⟩⟩⟩⟩⟩⟩⟩⟩⟩⟩⟩⟩⟩⟩⟩⟩⟩⟩⟩⟩⟩⟩⟩⟩⟩⟩⟩⟩⟩⟩⟩⟩⟩⟩⟩⟩⟩⟩⟩⟩⟩⟩⟩⟩⟩⟩⟩⟩⟩⟩⟩⟩⟩⟩⟩⟩⟩⟩⟩⟩⟩⟩⟩⟩⟩⟩⟩⟩⟩⟩⟩⟩⟩⟩⟩⟩⟩⟩⟩⟩⟩⟩⟩⟩⟩⟩⟩⟩⟩⟩⟩⟩⟩⟩⟩⟩⟩⟩⟩⟩⟩⟩⟩⟩⟩⟩⟩⟩⟩⟩⟩⟩⟩⟩⟩⟩⟩⟩⟩⟩⟩⟩⟩⟩⟩⟩
theorem cx0_wf (fz : Bool) : ∀ (i pc : Nat) (I : rf_I), (cx0 fz).1 i pc = some I → rf_wf (cx0 fz) ocl0 tb0 sp0 str0 (stt0 fz) i pc I := rf_wf_of (ck_all fz) (lkz_ok fz)
theorem cx0_G (fz : Bool) : rf_G (cx0 fz) tb0 := by
  intro ci r hr
  have hr : cl0[ci]? = some r := hr
  match ci, hr with
  | 0, hr => cases hr; exact ⟨uw_0, fun k hk => (ut_0 k hk).1, un_0, fun k hk => (ut_0 k hk).2⟩
  | 1, hr => cases hr; exact ⟨uw_1, fun k hk => (ut_1 k hk).1, un_1, fun k hk => (ut_1 k hk).2⟩
  | 2, hr => cases hr; exact ⟨uw_2, fun k hk => (ut_2 k hk).1, un_2, fun k hk => (ut_2 k hk).2⟩
  | 3, hr => cases hr; exact ⟨uw_3, fun k hk => (ut_3 k hk).1, un_3, fun k hk => (ut_3 k hk).2⟩
  | 4, hr => cases hr; exact ⟨uw_4, fun k hk => (ut_4 k hk).1, un_4, fun k hk => (ut_4 k hk).2⟩
  | 5, hr => cases hr; exact ⟨uw_5, fun k hk => (ut_5 k hk).1, un_5, fun k hk => (ut_5 k hk).2⟩
  | 6, hr => cases hr; exact ⟨uw_6, fun k hk => (ut_6 k hk).1, un_6, fun k hk => (ut_6 k hk).2⟩
  | 7, hr => cases hr; exact ⟨uw_7, fun k hk => (ut_7 k hk).1, un_7, fun k hk => (ut_7 k hk).2⟩
  | 8, hr => cases hr; exact ⟨uw_8, fun k hk => (ut_8 k hk).1, un_8, fun k hk => (ut_8 k hk).2⟩
  | 9, hr => cases hr; exact ⟨uw_9, fun k hk => (ut_9 k hk).1, un_9, fun k hk => (ut_9 k hk).2⟩
  | 10, hr => cases hr; exact ⟨uw_10, fun k hk => (ut_10 k hk).1, un_10, fun k hk => (ut_10 k hk).2⟩
  | 11, hr => cases hr; exact ⟨uw_11, fun k hk => (ut_11 k hk).1, un_11, fun k hk => (ut_11 k hk).2⟩
  | c + 12, hr => simp [cl0] at hr
end
section
/-! THE START: the machine at the law's entry holds the abstract heap at its beginning -/
def si0 : List Nat := [63, 69, 71, 73, 75, 77, 79, 81, 83, 85]
def sl0 : List Nat := [2, 4, 5, 5, 5, 6, 2, 3, 5, 6]
def sb0 : List (List Int32) := [[105, 102], [101, 108, 115, 101], [119, 104, 105, 108, 101], [114, 101, 116, 114, 121], [116, 104, 114, 111, 119], [101, 105, 116, 104, 101, 114], [111, 114], [116, 114, 121], [99, 97, 116, 99, 104], [97, 108, 119, 97, 121, 115]]
def tm0 (i : Nat) : Term := .string "MemoryTransactions$Scanner" (si0.getD i 0)
def h0M (xs : Nat → Int32) : rf_M := (fun a j => if a = 1 then xs j else if a % 2 = 1 then (sb0.getD ((a - 3) / 2) []).getD j 0 else 0, fun _ _ => 0, fun a k => if k = 0 then some (a + 1) else none)
def h0S (L : Nat) : Nat → rf_S := fun a => if a = 1 then .inr (.int, L) else if a % 2 = 1 then .inr (.byte, sl0.getD ((a - 3) / 2) 0) else .inl 0
def h00 (L : Nat) (xs : Nat → Int32) : rf_H := (h0M xs, h0S L, 22, 0)
def ad0 (f b base : Nat) (adK adV : Nat → Nat) : Nat → Nat := fun a => if a = 0 then f else if a = 1 then b else if a < 22 then (if a % 2 = 0 then adK ((a - 2) / 2) else adV ((a - 3) / 2)) else base + (a - 22)
theorem ad0_e (f b base : Nat) (adK adV : Nat → Nat) {i : Nat} (hi : i < 10) : ad0 f b base adK adV (2 + 2 * i) = adK i := by
  unfold ad0
  rw [if_neg (by omega), if_neg (by omega), if_pos (by omega), if_pos (by omega)]
  congr 1
  omega
theorem ad0_o (f b base : Nat) (adK adV : Nat → Nat) {i : Nat} (hi : i < 10) : ad0 f b base adK adV (3 + 2 * i) = adV i := by
  unfold ad0
  rw [if_neg (by omega), if_neg (by omega), if_pos (by omega), if_neg (by omega)]
  congr 1
  omega
theorem fl_ex : ∀ i, i < 10 → Cond.exactly (tm0 i) "java/lang/String" ∈ flatC (Jvm.Cond.and given_1 narrow_1) := by decide +kernel
theorem fl_co : ∀ i, i < 10 → Cond.eq (.field (tm0 i) "java/lang/String" "coder" "B") (.int 0) ∈ flatC (Jvm.Cond.and given_1 narrow_1) := by decide +kernel
theorem fl_ar : ∀ i, i < 10 → Cond.arrayOf (.field (tm0 i) "java/lang/String" "value" "[B") .byte ∈ flatC (Jvm.Cond.and given_1 narrow_1) := by decide +kernel
theorem fl_le : ∀ i, i < 10 → Cond.eq (.length (.field (tm0 i) "java/lang/String" "value" "[B")) (.int (Int32.ofNat (sl0.getD i 0))) ∈ flatC (Jvm.Cond.and given_1 narrow_1) := by decide +kernel
theorem fl_el : ∀ i, i < 10 → ∀ j, j < sl0.getD i 0 → Cond.eq (.elem (.field (tm0 i) "java/lang/String" "value" "[B") (.int (Int32.ofNat j))) (.int ((sb0.getD i []).getD j 0)) ∈ flatC (Jvm.Cond.and given_1 narrow_1) := by decide +kernel
theorem fl_ne : ∀ i, i < 10 → ∀ j, j < 10 → i ≠ j → (Cond.not (Cond.eq (tm0 i) (tm0 j)) ∈ flatC (Jvm.Cond.and given_1 narrow_1) ∨ Cond.not (Cond.eq (tm0 j) (tm0 i)) ∈ flatC (Jvm.Cond.and given_1 narrow_1)) := by decide +kernel
theorem fl_sl : ∀ i, i < 10 → sl0.getD i 0 < 2 ^ 31 := by decide +kernel
theorem fl_cs : Cond.eq (.static "java/lang/String" "COMPACT_STRINGS" "Z") (.int 1) ∈ flatC (Jvm.Cond.and given_1 narrow_1) := by decide +kernel
theorem fl_fm : Cond.isRef (.static "jdk/internal/util/Preconditions" "SIOOBE_FORMATTER" "Ljava/util/function/BiFunction;") ∈ flatC (Jvm.Cond.and given_1 narrow_1) := by decide +kernel
theorem ls_cs : Cond.laysStatic "java/lang/String" "COMPACT_STRINGS" "Z" ∈ lw_tbl := List.mem_of_getElem? (i := 590) (by decide +kernel)
theorem ls_fm : Cond.laysStatic "jdk/internal/util/Preconditions" "SIOOBE_FORMATTER" "Ljava/util/function/BiFunction;" ∈ lw_tbl := List.mem_of_getElem? (i := 606) (by decide +kernel)
theorem in_cs : Cond.initialized "java/lang/String" ∈ lw_tbl := List.mem_of_getElem? (i := 99) (by decide +kernel)
theorem in_fm : Cond.initialized "jdk/internal/util/Preconditions" ∈ lw_tbl := List.mem_of_getElem? (i := 101) (by decide +kernel)
theorem sr_0 : ∀ i, i < 10 → Cond.stringRef "MemoryTransactions$Scanner" (si0.getD i 0) (["if", "else", "while", "retry", "throw", "either", "or", "try", "catch", "always"].getD i "") ∈ lw_tbl := by decide +kernel
theorem str0_at : ∀ q ∈ str0, ∃ i, i < 10 ∧ q.1 = "MemoryTransactions$Scanner" ∧ q.2.1 = si0.getD i 0 ∧ q.2.2.1 = ["if", "else", "while", "retry", "throw", "either", "or", "try", "catch", "always"].getD i "" ∧ q.2.2.2 = 2 + 2 * i := List.forall_mem_cons.mpr ⟨⟨0, by decide, rfl, rfl, rfl, rfl⟩, List.forall_mem_cons.mpr ⟨⟨1, by decide, rfl, rfl, rfl, rfl⟩, List.forall_mem_cons.mpr ⟨⟨2, by decide, rfl, rfl, rfl, rfl⟩, List.forall_mem_cons.mpr ⟨⟨3, by decide, rfl, rfl, rfl, rfl⟩, List.forall_mem_cons.mpr ⟨⟨4, by decide, rfl, rfl, rfl, rfl⟩, List.forall_mem_cons.mpr ⟨⟨5, by decide, rfl, rfl, rfl, rfl⟩, List.forall_mem_cons.mpr ⟨⟨6, by decide, rfl, rfl, rfl, rfl⟩, List.forall_mem_cons.mpr ⟨⟨7, by decide, rfl, rfl, rfl, rfl⟩, List.forall_mem_cons.mpr ⟨⟨8, by decide, rfl, rfl, rfl, rfl⟩, List.forall_mem_cons.mpr ⟨⟨9, by decide, rfl, rfl, rfl, rfl⟩, fun _ h => absurd h List.not_mem_nil⟩⟩⟩⟩⟩⟩⟩⟩⟩⟩
theorem rf_sp_of {w : Cond} (hk : rf_spk w = true) {A : Array Value} {U : State} (hz : w.before A U = true) : w.before #[] U = true := by
  unfold rf_spk at hk
  split at hk
  · exact va_Nw.of rfl hz
  · exact va_Nw.of rfl hz
  · exact va_Nw.of rfl hz
  · exact va_Nw.of rfl hz
  · exact va_AO.of hz
  · cases hk
theorem kn_0 {s : State} {args : Array Value} (hts : ∀ w ∈ tb0, w.before args s = true) : ∃ D : va_G, va_K D cl0 [] s := by
  have h : ∀ k : Nat, ∃ p : ClassId × (Nat → Nat), ∀ q : vw_C, cl0[k]? = some q → u_Kn s q.1 q.2.1 q.2.2 p.1 p.2 := by
    intro k
    match k with
    | 0 =>
      obtain ⟨c, i, h⟩ := u_known hts uw_0 (hts _ ins_0)
      exact ⟨(c, i), fun q hq => by cases hq; exact h⟩
    | 1 =>
      obtain ⟨c, i, h⟩ := u_known hts uw_1 (hts _ ins_1)
      exact ⟨(c, i), fun q hq => by cases hq; exact h⟩
    | 2 =>
      obtain ⟨c, i, h⟩ := u_known hts uw_2 (hts _ ins_2)
      exact ⟨(c, i), fun q hq => by cases hq; exact h⟩
    | 3 =>
      obtain ⟨c, i, h⟩ := u_known hts uw_3 (hts _ ins_3)
      exact ⟨(c, i), fun q hq => by cases hq; exact h⟩
    | 4 =>
      obtain ⟨c, i, h⟩ := u_known hts uw_4 (hts _ ins_4)
      exact ⟨(c, i), fun q hq => by cases hq; exact h⟩
    | 5 =>
      obtain ⟨c, i, h⟩ := u_known hts uw_5 (hts _ ins_5)
      exact ⟨(c, i), fun q hq => by cases hq; exact h⟩
    | 6 =>
      obtain ⟨c, i, h⟩ := u_known hts uw_6 (hts _ ins_6)
      exact ⟨(c, i), fun q hq => by cases hq; exact h⟩
    | 7 =>
      obtain ⟨c, i, h⟩ := u_known hts uw_7 (hts _ ins_7)
      exact ⟨(c, i), fun q hq => by cases hq; exact h⟩
    | 8 =>
      obtain ⟨c, i, h⟩ := u_known hts uw_8 (hts _ ins_8)
      exact ⟨(c, i), fun q hq => by cases hq; exact h⟩
    | 9 =>
      obtain ⟨c, i, h⟩ := u_known hts uw_9 (hts _ ins_9)
      exact ⟨(c, i), fun q hq => by cases hq; exact h⟩
    | 10 =>
      obtain ⟨c, i, h⟩ := u_known hts uw_10 (hts _ ins_10)
      exact ⟨(c, i), fun q hq => by cases hq; exact h⟩
    | 11 =>
      obtain ⟨c, i, h⟩ := u_known hts uw_11 (hts _ ins_11)
      exact ⟨(c, i), fun q hq => by cases hq; exact h⟩
    | k + 12 => exact ⟨(0, fun _ => 0), fun q hq => by simp [cl0] at hq⟩
  obtain ⟨g, hg⟩ := Classical.axiomOfChoice h
  exact ⟨(fun k => (g k).1, fun k => (g k).2), fun k q hq => hg k q hq, fun k q hq => by simp at hq⟩
end
section
-- ===== end of PART A; then your names; then what follows =====
/-! THE CLAIM OUT OF ONE WALK OF THE LAW'S BODY. Your part is whole_start (and what it stands on); all else here is the same for every law, but numbers. -/
def R_law : String := "MemoryTransactionsLaw"
def lw_P (b : Addr) (xs : List Int32) (args : Array Value) (s : State) : Prop := args = #[.ref b] ∧ s.IntsAt b xs ∧ xs.length ≤ 3072 ∧ (Jvm.Cond.and given_1 narrow_1).before args s = true
def lw_Q (_ : Array Value) (s : State) (o : Outcome) (t : State) : Prop := o = .returned (some (.int 1)) ∧ Framed s o t [] 600000 7302250
def lw_Z (below : List Frame) (a : Array Value) (s : State) : State → Prop := fun t => ∃ o, t.status = .running ∧ Ended t below o ∧ lw_Q a s o t
/-- the law's own end, with 1 on the stack, nothing written that was there before, its room as the claim has it -/
theorem lw_ret {p : Program} {l : Launch} {e : Env} {s : State} {m : MethodId} {below : List Frame} {meth : Method} {c : Code} {b : Nat} (hx : p.tables.exec = Jvm.exec) (hb : c.code = code) (hr : meth.sig.returnType = ret) (hlocks : meth.locks = false) {pc : Nat} {H : Heap} {ls : Array Slot} (hdg : decode code pc = .ok (.ireturn, 1)) : W p l e room_1 s m #[Value.ref b] below meth c H [] 600000 7302250 (lw_Z below #[Value.ref b] s) (F0 m pc ls [.int 1]) := by
  intro T hT X
  obtain ⟨fs, hret, hrun, hended, hW, hframe⟩ := X.leave (v := some (.int 1)) (hlocks := hlocks) (fun h => by rw [hr] at h; cases h)
  have hmeth' : T.vm.method? m = some meth := X.method'
  refine ⟨T.setFrames fs, ?_, .returned (some (.int 1)), hrun, hended, rfl, ⟨_, rfl⟩, hW, hframe⟩
  jvm_step X.here [X.here.top, hx, hb, hdg, hmeth', hr, ret, narrow_b1]
  (try refine ⟨rfl, ?_⟩); (try refine ⟨rfl, ?_⟩)
  first | (intro acts; rw [hret _ acts rfl rfl rfl]) | rw [hret _ _ rfl rfl rfl]
  exact Steps.refl _
/-- what holds at the law's entry: the machine, the code, the tables' words (any of lw_tbl by 'hts w (by decide +kernel)'), the script of L ints xs at the cell b, what the Statement gives of the start (any of its parts by flat_of_before) -/
def lw_At (p : Program) (s : State) (m : MethodId) (meth : Method) (c : Code) (b L : Nat) (xs : Nat → Int32) : Prop :=
  p.tables.exec = Jvm.exec ∧ c.code = code ∧ meth.sig.returnType = ret ∧ c.maxLocals = 4 ∧ s.vm.findClass R_law = some m.cls ∧ (∀ w ∈ lw_tbl, w.before #[Value.ref b] s = true) ∧ va_X b L xs s s.heap ∧ b < s.heap.size ∧ meth.locks = false ∧ (Jvm.Cond.and given_1 narrow_1).before #[Value.ref b] s = true
end
section
/-! THE CLAIM OUT OF THE EVALUATOR -/
/-- what is to be shown: the evaluator comes to 1, within the room -/
def pu_goal (fz : Bool) (L : Nat) (xs : Nat → Int32) : Prop := ∃ (n : Nat) (hF : rf_H), rf_ev (cx0 fz) n (2048, 84000) 0 0 [(0, .ref 1)] [] (h00 L xs) = some (some (.int 1), hF) ∧ hF.2.2.1 ≤ 600000 ∧ hF.2.2.2 ≤ 7302250
set_option maxHeartbeats 4000000 in
theorem st_ao {s : State} {b L : Nat} {xs : Nat → Int32} {f : Nat} {fz : Bool} {adK adV : Nat → Nat} (hX : va_X b L xs s s.heap) (hS : vk_S 10 sl0 sb0 adK adV (fun q => s.heap.size ≤ q) s s.heap) : ∀ a, 0 < a → a < 22 → rf_ao ocl0 (cx0 fz) (ad0 f b s.heap.size adK adV) s s.heap (h0M xs) a (h0S L a) := by
  intro a h0 h1
  by_cases ha : a = 1
  · subst ha
    obtain ⟨scr, q1, q2, q3, q4, q5⟩ := hX
    exact ⟨scr, q1, q2, q3, Nat.le_of_eq q4.symm, by rw [q4]; rfl, fun j hj => q5 j hj⟩
  · by_cases he : a % 2 = 0
    · obtain ⟨i, hi, rfl⟩ : ∃ i, i < 10 ∧ a = 2 + 2 * i := ⟨(a - 2) / 2, by omega, by omega⟩
      have hsh : h0S L (2 + 2 * i) = .inl 0 := by
        unfold h0S
        rw [if_neg (by omega), if_neg (by omega)]
      rw [hsh]
      obtain ⟨⟨cell, o1, o2, o3, -⟩, c1, v1, -⟩ := hS.1 i hi
      refine ⟨oq_0, rfl, ⟨cell, by rw [ad0_e _ _ _ _ _ hi]; exact o1, o2, o3⟩, fun k hk => ?_⟩
      have hk2 : k = 0 ∨ k = 1 := by
        have : k < 2 := hk
        omega
      rcases hk2 with rfl | rfl
      · obtain ⟨cf, kf, fi, fd, cel, g1, g2, g3, g4, g5, -⟩ := v1
        refine ⟨cf, kf, fi, fd, cel, g1, g2, by rw [ad0_e _ _ _ _ _ hi]; exact g3, g4, ?_⟩
        rw [g5]
        show some (Value.ref (adV i)) = some (Value.ref (ad0 f b s.heap.size adK adV (2 + 2 * i + 1)))
        rw [show 2 + 2 * i + 1 = 3 + 2 * i by omega, ad0_o _ _ _ _ _ hi]
      · obtain ⟨cf, kf, fi, fd, cel, g1, g2, g3, g4, g5, -⟩ := c1
        refine ⟨cf, kf, fi, fd, cel, g1, g2, by rw [ad0_e _ _ _ _ _ hi]; exact g3, g4, ?_⟩
        rw [g5]
        show some (Value.int 0) = some (Value.int (if 2 + 2 * i = 1 then xs 1 else if (2 + 2 * i) % 2 = 1 then _ else 0))
        rw [if_neg (by omega), if_neg (by omega)]
    · obtain ⟨i, hi, rfl⟩ : ∃ i, i < 10 ∧ a = 3 + 2 * i := ⟨(a - 3) / 2, by omega, by omega⟩
      have hdv : (3 + 2 * i - 3) / 2 = i := by omega
      have hsh : h0S L (3 + 2 * i) = .inr (.byte, sl0.getD i 0) := by
        unfold h0S
        rw [if_neg (by omega), if_pos (by omega), hdv]
      rw [hsh]
      obtain ⟨-, -, -, cel, t1, t2, t3, t4, t5, t6, -⟩ := hS.1 i hi
      refine ⟨cel, by rw [ad0_o _ _ _ _ _ hi]; exact t1, t2, t3, t4, t5, fun j hj => ?_⟩
      rw [t6 j hj]
      show some (Value.int _) = some (Value.int (if 3 + 2 * i = 1 then xs j else if (3 + 2 * i) % 2 = 1 then (sb0.getD ((3 + 2 * i - 3) / 2) []).getD j 0 else 0))
      rw [if_neg (by omega), if_pos (by omega), hdv]
set_option maxHeartbeats 4000000 in
theorem whole_of {p : Program} {e : Env} {s : State} {m : MethodId} {below : List Frame} {meth : Method} {c : Code} (l : Launch) {b L : Nat} {xs : Nat → Int32} (hpu : ∀ fz, pu_goal fz L xs) (C0 : lw_At p s m meth c b L xs) : W p l e room_1 s m #[Value.ref b] below meth c s.heap [] 0 0 (lw_Z below #[Value.ref b] s) (entryFrame m ([Value.ref b] : List Value).toArray 4) := by
  obtain ⟨hx, hb, hr, hml, hown, hts, hX, hbl, hlocks, hgv⟩ := C0
  have hfl := flat_of_before _ hgv
  have hA : ∀ a : Nat, a < s.heap.size → ¬ (fun q : Nat => s.heap.size ≤ q) a := fun a h => Nat.not_le.mpr h
  have htb : ∀ w ∈ tb0, w.before #[Value.ref b] s = true := fun w hw => hts w (List.mem_filter.mp hw).1
  obtain ⟨adK, adV, hS, hSe⟩ := vk_Sof (args := #[Value.ref b]) (s := s) (N := 10) (tm := tm0) (len := sl0) (byt := sb0) (A := fun q => s.heap.size ≤ q) fl_sl (fun i hi => hfl _ (fl_ex i hi)) (fun i hi => hfl _ (fl_co i hi)) (fun i hi => hfl _ (fl_ar i hi)) (fun i hi => hfl _ (fl_le i hi)) (fun i hi j hj => hfl _ (fl_el i hi j hj)) (fun i j hi hj hij => (fl_ne i hi j hj hij).imp (fun z => hfl _ z) (fun z => hfl _ z)) hA
  have hcs := va_Zof (hts _ ls_cs) (hts _ in_cs) (va_eqi (hfl _ fl_cs)) hA
  obtain ⟨D, hK⟩ := kn_0 htb
  obtain ⟨fz, f, hfm⟩ : ∃ (fz : Bool) (f : Nat), va_Z "jdk/internal/util/Preconditions" "SIOOBE_FORMATTER" "Ljava/util/function/BiFunction;" (if fz then .ref f else .null) (fun q => s.heap.size ≤ q) s s.heap := by
    rcases va_Zqof (hts _ ls_fm) (hts _ in_fm) (hfl _ fl_fm) hA with z | ⟨t, z⟩
    · exact ⟨false, 0, z⟩
    · exact ⟨true, t, z⟩
  have hAd : rf_A (cx0 fz) (ad0 f b s.heap.size adK adV) s.heap.size := by
    refine ⟨fun a ha => ?_, fun a h0 h1 => ?_, (show 0 < 22 from Nat.le_of_ble_eq_true rfl)⟩
    · have ha : 22 ≤ a := ha
      show ad0 f b s.heap.size adK adV a = s.heap.size + (a - 22)
      unfold ad0
      rw [if_neg (by omega), if_neg (by omega), if_neg (by omega)]
    · have h1 : a < 22 := h1
      by_cases ha : a = 1
      · subst ha; exact hbl
      · by_cases he : a % 2 = 0
        · obtain ⟨i, hi, rfl⟩ : ∃ i, i < 10 ∧ a = 2 + 2 * i := ⟨(a - 2) / 2, by omega, by omega⟩
          rw [ad0_e _ _ _ _ _ hi]
          obtain ⟨⟨cell, o1, -⟩, -⟩ := hS.1 i hi
          exact (Array.getElem?_eq_some_iff.mp o1).1
        · obtain ⟨i, hi, rfl⟩ : ∃ i, i < 10 ∧ a = 3 + 2 * i := ⟨(a - 3) / 2, by omega, by omega⟩
          rw [ad0_o _ _ _ _ _ hi]
          obtain ⟨-, -, -, cel, t1, -⟩ := hS.1 i hi
          exact (Array.getElem?_eq_some_iff.mp t1).1
  have hR : rf_R ocl0 s.heap D (cx0 fz) (ad0 f b s.heap.size adK adV) s.heap.size s s.heap (h00 L xs) :=
    ⟨fun a h1 h2 => absurd (Nat.lt_of_lt_of_le h2 h1) (Nat.lt_irrefl _), st_ao hX hS, rfl, Nat.le_refl _, fun _ _ => rfl⟩
  have hE : rf_E sp0 str0 (stt0 fz) s.heap (ad0 f b s.heap.size adK adV) s.heap.size s := by
    refine ⟨fun w hw => rf_sp_of (List.mem_filter.mp hw).2 (hts w (List.mem_filter.mp hw).1), fun q hq => ?_, ?_⟩
    · obtain ⟨i, hi, e1, e2, e3, e4⟩ := str0_at q hq
      obtain ⟨q1, q2, q3, q4⟩ := q
      dsimp only at e1 e2 e3 e4
      subst e1; subst e2; subst e3; subst e4
      refine vk_R.of (A := #[Value.ref b]) (hts _ (sr_0 i hi)) ?_
      rw [ad0_e _ _ _ _ _ hi]
      exact hSe i hi
    · refine List.forall_mem_cons.mpr ⟨hcs, List.forall_mem_cons.mpr ⟨?_, fun _ h => absurd h List.not_mem_nil⟩⟩
      cases fz
      · exact hfm
      · exact hfm
  obtain ⟨n, hF, hev, hc1, hc2⟩ := hpu fz
  have hP := rf_main (l := l) (OH := s.heap) (D := D) (cx0_wf fz) (cx0_G fz) hAd tb0_good sp0_spk n
  obtain ⟨-, hW⟩ := hP (2048, 84000) 0 0 [(0, .ref 1)] [] (h00 L xs) (some (.int 1)) hF hev
  have hl := lv_entry ([.ref b]) (n := 4) (Nat.le_of_ble_eq_true rfl)
  rw [lg_entry_eq]
  refine hW p e room_1 s m _ below meth c s.heap [] 0 0 _ _ hx hb hml hown ?_ htb hE hK hR (fun q hq => by cases hq) hl (Nat.le_refl _) (Nat.le_refl _) ?_ ?_ ?_
  · intro z
    have z2 : ("law" : String) = "<init>" := z
    exact absurd z2 (by decide +kernel)
  · show 0 + (hF.2.2.1 - 22) ≤ 600000
    omega
  · show 0 + (hF.2.2.2 - 0) ≤ 7302250
    omega
  · intro pcR IR HR locsR lsR stR hd hrt hRR hloc
    have hi : IR = .ireturn ∧ stR = [.int 1] := by
      have hrt : rf_rt IR (some .boolean) stR = some (some (.int 1)) := hrt
      unfold rf_rt at hrt
      split at hrt
      all_goals first
        | (exfalso; simp_all; done)
        | (split at hrt
           · cases hrt; exact ⟨rfl, rfl⟩
           · cases hrt)
    obtain ⟨rfl, rfl⟩ := hi
    refine va_forget (fun q hq => hloc q hq) ?_
    refine W.widen (k := 600000) (n := 7302250) (by show 0 + (hF.2.2.1 - 22) ≤ 600000; omega) (by show 0 + (hF.2.2.2 - 0) ≤ 7302250; omega) ?_
    exact lw_ret hx hb hr hlocks hd
end
section
/-! ROWS OF THE EVALUATOR, over a heap ((I, L, R), S): S are the shapes, which no instruction but the makings changes -/
abbrev gS : Type := (Nat → rf_S) × Nat × Nat
/-- a is an object of class ci that was made -/
def go (cx : rf_C) (S : gS) (a ci : Nat) : Prop := cx.2.2.2.2 ≤ a ∧ 0 < a ∧ a < S.2.1 ∧ S.1 a = .inl ci
/-- a is an array of n elements of type ty that was made -/
def ga (cx : rf_C) (S : gS) (a : Nat) (ty : FieldType) (n : Nat) : Prop := cx.2.2.2.2 ≤ a ∧ 0 < a ∧ a < S.2.1 ∧ S.1 a = .inr (ty, n)
section GROW
variable {cx : rf_C} {d : Nat × Nat} {i pc : Nat} {ls : rf_L} {st : List Value} {h : rf_H} {Q : Option Value → rf_H → Prop} {I : Nat → Nat → Int32} {L : Nat → Nat → Int64} {R : Nat → Nat → Option Nat} {S : gS} {aux : List (Int × Nat)}
theorem go.ob {a ci : Nat} (hs : go cx S a ci) (M : rf_M) : rf_ob (M, S) a = some ci := by
  unfold rf_ob
  rw [if_pos ⟨hs.2.1, hs.2.2.1⟩]
  show (match S.1 a with | .inl ci => some ci | .inr _ => none) = some ci
  rw [hs.2.2.2]
theorem ga.aa {a n : Nat} {ty : FieldType} (hs : ga cx S a ty n) (M : rf_M) : rf_aa (M, S) a = some (ty, n) := by
  unfold rf_aa
  rw [if_pos ⟨hs.2.1, hs.2.2.1⟩]
  show (match S.1 a with | .inr q => some q | .inl _ => none) = some (ty, n)
  rw [hs.2.2.2]
theorem ga.el {a n : Nat} {ty : FieldType} (hs : ga cx S a ty n) (M : rf_M) {j : Int32} (hj : ¬ (j < 0 ∨ n ≤ j.toNatClampNeg)) : rf_el (M, S) ty a j = some (rf_rd M ty a j.toNatClampNeg) := by
  unfold rf_el
  rw [hs.aa M]
  show (if ty = ty ∧ ¬ (j < 0 ∨ n ≤ j.toNatClampNeg) then _ else _) = _
  rw [if_pos ⟨rfl, hj⟩]
theorem go.ky {a ci : Nat} (hs : go cx S a ci) : rf_ky cx.2.2.2.2 a ci = (ci : Int) := if_neg (Nat.not_lt.mpr hs.1)
/-- arithmetic, loads, stores, constants: one row a kind -/
theorem g0 {J : Instr} {st' : List Value} (hf : cx.1 i pc = some (J, aux)) (hk : rf_kd J = 0) (he : rf_ar J st = some st') (k : gx cx d i (pc + 1) ls st' h Q) : gx cx d i pc ls st h Q := by
  refine gx_step hf (pc' := pc + 1) (ls' := ls) (st' := st') (h' := h) ?_ k
  unfold rf_ex
  simp only [hk, he, Option.map_some]
theorem g1 {J : Instr} {st' : List Value} {n : Nat} (hf : cx.1 i pc = some (J, aux)) (hk : rf_kd J = 1) (hn : rf_len J = n) (he : rf_lo J aux ls st = some st') (k : gx cx d i (pc + n) ls st' h Q) : gx cx d i pc ls st h Q := by
  refine gx_step hf (pc' := pc + n) (ls' := ls) (st' := st') (h' := h) ?_ k
  unfold rf_ex
  simp only [hk, he, hn, Option.map_some]
theorem g2 {J : Instr} {ls' : rf_L} {st' : List Value} {n : Nat} (hf : cx.1 i pc = some (J, aux)) (hk : rf_kd J = 2) (hn : rf_len J = n) (he : rf_so J (cx.2.1 i).2.2.1 ls st = some (ls', st')) (k : gx cx d i (pc + n) ls' st' h Q) : gx cx d i pc ls st h Q := by
  refine gx_step hf (pc' := pc + n) (ls' := ls') (st' := st') (h' := h) ?_ k
  unfold rf_ex
  simp only [hk, he, hn, Option.map_some]
theorem g3 {J : Instr} {pc' : Nat} {st' : List Value} (hf : cx.1 i pc = some (J, aux)) (hk : rf_kd J = 3) (he : rf_br cx.2.2.2.2 J aux pc st = some (pc', st')) (k : gx cx d i pc' ls st' h Q) : gx cx d i pc ls st h Q := by
  refine gx_step hf (pc' := pc') (ls' := ls) (st' := st') (h' := h) ?_ k
  unfold rf_ex
  simp only [hk, he, Option.map_some]
theorem g7 {J : Instr} {st' : List Value} {n : Nat} (hf : cx.1 i pc = some (J, aux)) (hk : rf_kd J = 7) (hn : rf_len J = n) (he : rf_po aux st = some st') (k : gx cx d i (pc + n) ls st' h Q) : gx cx d i pc ls st h Q := by
  refine gx_step hf (pc' := pc + n) (ls' := ls) (st' := st') (h' := h) ?_ k
  unfold rf_ex
  simp only [hk, he, hn, Option.map_some]
theorem g4 {J : Instr} {st' : List Value} {h' : rf_H} {n : Nat} (hf : cx.1 i pc = some (J, aux)) (hk : rf_kd J = 4) (hn : rf_len J = n) (he : rf_hp cx J aux st h = some (st', h')) (k : gx cx d i (pc + n) ls st' h' Q) : gx cx d i pc ls st h Q := by
  refine gx_step hf (pc' := pc + n) (ls' := ls) (st' := st') (h' := h') ?_ k
  unfold rf_ex
  simp only [hk, he, hn, Option.map_some]
/-- branches: two ways -/
theorem g_if {c : Jvm.ClassFile.Cond} {o : Int} {x : Int32} (hf : cx.1 i pc = some (.ifCond c o, aux)) (kt : rf_cc x 0 c = true → gx cx d i (rf_tg aux) ls st h Q) (kf : ¬ rf_cc x 0 c = true → gx cx d i (pc + 3) ls st h Q) : gx cx d i pc ls (.int x :: st) h Q := by
  by_cases hc : rf_cc x 0 c = true
  · exact g3 hf rfl (by show some (if rf_cc x 0 c = true then rf_tg aux else pc + 3, st) = _; rw [if_pos hc]) (kt hc)
  · exact g3 hf rfl (by show some (if rf_cc x 0 c = true then rf_tg aux else pc + 3, st) = _; rw [if_neg hc]) (kf hc)
theorem g_ic {c : Jvm.ClassFile.Cond} {o : Int} {x y : Int32} (hf : cx.1 i pc = some (.if_icmp c o, aux)) (kt : rf_cc x y c = true → gx cx d i (rf_tg aux) ls st h Q) (kf : ¬ rf_cc x y c = true → gx cx d i (pc + 3) ls st h Q) : gx cx d i pc ls (.int y :: .int x :: st) h Q := by
  by_cases hc : rf_cc x y c = true
  · exact g3 hf rfl (by show some (if rf_cc x y c = true then rf_tg aux else pc + 3, st) = _; rw [if_pos hc]) (kt hc)
  · exact g3 hf rfl (by show some (if rf_cc x y c = true then rf_tg aux else pc + 3, st) = _; rw [if_neg hc]) (kf hc)
/-- fields -/
theorem g_gf {idx a ci k : Nat} {v : Value} (hf : cx.1 i pc = some (.getfield idx, aux)) (hs : go cx S a ci) (hl : rf_lk aux (ci : Int) = some k) (hv : rf_rd (I, L, R) (cx.2.2.1 (ci : Int) k) a k = v) (kk : gx cx d i (pc + 3) ls (v :: st) ((I, L, R), S) Q) : gx cx d i pc ls (.ref a :: st) ((I, L, R), S) Q := by
  refine g4 hf rfl rfl (st' := v :: st) (h' := ((I, L, R), S)) ?_ kk
  show (match rf_ob ((I, L, R), S) a with
    | some ci => match rf_lk aux (rf_ky cx.2.2.2.2 a ci) with
      | some k => some (rf_rd (I, L, R) (cx.2.2.1 (rf_ky cx.2.2.2.2 a ci) k) a k :: st, ((I, L, R), S))
      | none => none
    | none => none) = _
  rw [hs.ob]
  dsimp only
  rw [hs.ky, hl]
  dsimp only
  rw [hv]
theorem g_pf {idx a ci k : Nat} {v : Value} {M : rf_M} (hf : cx.1 i pc = some (.putfield idx, aux)) (hs : go cx S a ci) (hl : rf_lk aux (ci : Int) = some k) (hv : rf_wr (I, L, R) (cx.2.2.1 (ci : Int) k) a k v = some M) (kk : gx cx d i (pc + 3) ls st (M, S) Q) : gx cx d i pc ls (v :: .ref a :: st) ((I, L, R), S) Q := by
  refine g4 hf rfl rfl (st' := st) (h' := (M, S)) ?_ kk
  show (if a < cx.2.2.2.2 then none else match rf_ob ((I, L, R), S) a with
    | some ci => match rf_lk aux (ci : Int) with
      | some k => match rf_wr (I, L, R) (cx.2.2.1 (ci : Int) k) a k v with
        | some M => some (st, (M, S))
        | none => none
      | none => none
    | none => none) = _
  rw [if_neg (Nat.not_lt.mpr hs.1), hs.ob]
  dsimp only
  rw [hl]
  dsimp only
  rw [hv]
/-- arrays -/
theorem g_il {a n : Nat} {j : Int32} (hf : cx.1 i pc = some (.iaload, aux)) (hs : ga cx S a .int n) (hj : ¬ (j < 0 ∨ n ≤ j.toNatClampNeg)) (kk : gx cx d i (pc + 1) ls (.int (I a j.toNatClampNeg) :: st) ((I, L, R), S) Q) : gx cx d i pc ls (.int j :: .ref a :: st) ((I, L, R), S) Q := by
  refine g4 hf rfl rfl (st' := .int (I a j.toNatClampNeg) :: st) (h' := ((I, L, R), S)) ?_ kk
  show (match rf_el ((I, L, R), S) .int a j with | some v => some (v :: st, ((I, L, R), S)) | none => none) = _
  rw [hs.el _ hj]
  rfl
theorem g_ll {a n : Nat} {j : Int32} (hf : cx.1 i pc = some (.laload, aux)) (hs : ga cx S a .long n) (hj : ¬ (j < 0 ∨ n ≤ j.toNatClampNeg)) (kk : gx cx d i (pc + 1) ls (.long (L a j.toNatClampNeg) :: st) ((I, L, R), S) Q) : gx cx d i pc ls (.int j :: .ref a :: st) ((I, L, R), S) Q := by
  refine g4 hf rfl rfl (st' := .long (L a j.toNatClampNeg) :: st) (h' := ((I, L, R), S)) ?_ kk
  show (match rf_el ((I, L, R), S) .long a j with | some v => some (v :: st, ((I, L, R), S)) | none => none) = _
  rw [hs.el _ hj]
  rfl
theorem g_is {a n : Nat} {j x : Int32} (hf : cx.1 i pc = some (.iastore, aux)) (hs : ga cx S a .int n) (hj : ¬ (j < 0 ∨ n ≤ j.toNatClampNeg)) (kk : gx cx d i (pc + 1) ls st ((va_up I a (va_up (I a) j.toNatClampNeg x), L, R), S) Q) : gx cx d i pc ls (.int x :: .int j :: .ref a :: st) ((I, L, R), S) Q := by
  refine g4 hf rfl rfl (st' := st) (h' := ((va_up I a (va_up (I a) j.toNatClampNeg x), L, R), S)) ?_ kk
  show (if a < cx.2.2.2.2 then none else match rf_el ((I, L, R), S) .int a j with | some _ => some (st, (rf_wi (I, L, R) a j.toNatClampNeg x, S)) | none => none) = _
  rw [if_neg (Nat.not_lt.mpr hs.1), hs.el _ hj]
  rfl
theorem g_ls {a n : Nat} {j : Int32} {x : Int64} (hf : cx.1 i pc = some (.lastore, aux)) (hs : ga cx S a .long n) (hj : ¬ (j < 0 ∨ n ≤ j.toNatClampNeg)) (kk : gx cx d i (pc + 1) ls st ((I, va_up L a (va_up (L a) j.toNatClampNeg x), R), S) Q) : gx cx d i pc ls (.long x :: .int j :: .ref a :: st) ((I, L, R), S) Q := by
  refine g4 hf rfl rfl (st' := st) (h' := ((I, va_up L a (va_up (L a) j.toNatClampNeg x), R), S)) ?_ kk
  show (if a < cx.2.2.2.2 then none else match rf_el ((I, L, R), S) .long a j with | some _ => some (st, (rf_wl (I, L, R) a j.toNatClampNeg x, S)) | none => none) = _
  rw [if_neg (Nat.not_lt.mpr hs.1), hs.el _ hj]
  rfl
theorem g_ln {a n : Nat} {ty : FieldType} (hf : cx.1 i pc = some (.arraylength, aux)) (hs : ga cx S a ty n) (kk : gx cx d i (pc + 1) ls (.int (nI n) :: st) ((I, L, R), S) Q) : gx cx d i pc ls (.ref a :: st) ((I, L, R), S) Q := by
  refine g4 hf rfl rfl (st' := .int (nI n) :: st) (h' := ((I, L, R), S)) ?_ kk
  show (match rf_aa ((I, L, R), S) a with | some q => some (Value.int (nI q.2) :: st, ((I, L, R), S)) | none => none) = _
  rw [hs.aa]
end GROW
end
section
/-! a first contract, by hand: Program.has -/
theorem c_has (fz : Bool) {I : Nat → Nat → Int32} {L : Nat → Nat → Int64} {R : Nat → Nat → Option Nat} {S : gS} {a : Nat} {v : Int32} (hs : go (cx0 fz) S a 1) : gx (cx0 fz) (0, 0) 64 0 [(0, .ref a), (1, .int v)] [] ((I, L, R), S) (fun r h' => h' = ((I, L, R), S) ∧ r = some (.int (if v < 0 then 0 else if I a 0 ≤ v then 0 else 1))) := by
  refine g1 (n := 1) rfl rfl rfl rfl ?_
  refine g_if rfl (fun c1 => ?_) (fun c1 => ?_)
  · have c1 : v < 0 := of_decide_eq_true c1
    refine g1 (n := 1) rfl rfl rfl rfl ?_
    exact gx_ret rfl rfl ⟨rfl, by rw [if_pos c1]; rfl⟩
  · have c1 : ¬ v < 0 := fun z => c1 (decide_eq_true z)
    refine g1 (n := 1) rfl rfl rfl rfl ?_
    refine g1 (n := 1) rfl rfl rfl rfl ?_
    refine g_gf rfl hs rfl rfl ?_
    refine g_ic rfl (fun c2 => ?_) (fun c2 => ?_)
    · have c2 : I a 0 ≤ v := of_decide_eq_true c2
      refine g1 (n := 1) rfl rfl rfl rfl ?_
      exact gx_ret rfl rfl ⟨rfl, by rw [if_neg c1, if_pos c2]; rfl⟩
    · have c2 : ¬ I a 0 ≤ v := fun z => c2 (decide_eq_true z)
      refine g1 (n := 1) rfl rfl rfl rfl ?_
      refine g3 rfl rfl rfl ?_
      exact gx_ret rfl rfl ⟨rfl, by rw [if_neg c1, if_neg c2]; rfl⟩
theorem c_reset (fz : Bool) {I : Nat → Nat → Int32} {L : Nat → Nat → Int64} {R : Nat → Nat → Option Nat} {S : gS} {a : Nat} (hs : go (cx0 fz) S a 1) : gx (cx0 fz) (0, 0) 18 0 [(0, .ref a)] [] ((I, L, R), S) (fun r h' => r = none ∧ ∃ I', h' = ((I', L, R), S) ∧ I' a 0 = 0 ∧ ∀ b, b ≠ a → I' b = I b) := by
  refine g1 (n := 1) rfl rfl rfl rfl ?_
  refine g1 (n := 1) rfl rfl rfl rfl ?_
  refine g_pf rfl hs rfl rfl ?_
  refine g1 (n := 1) rfl rfl rfl rfl ?_
  refine g1 (n := 1) rfl rfl rfl rfl ?_
  refine g_pf rfl hs rfl rfl ?_
  refine g1 (n := 1) rfl rfl rfl rfl ?_
  refine g1 (n := 1) rfl rfl rfl rfl ?_
  refine g_pf rfl hs rfl rfl ?_
  refine g1 (n := 1) rfl rfl rfl rfl ?_
  refine g1 (n := 1) rfl rfl rfl rfl ?_
  refine g_pf rfl hs rfl rfl ?_
  refine g1 (n := 1) rfl rfl rfl rfl ?_
  refine g1 (n := 1) rfl rfl rfl rfl ?_
  refine g_pf rfl hs rfl rfl ?_
  refine gx_ret rfl rfl ⟨rfl, _, rfl, ?_, ?_⟩
  · simp [va_up]
  · intro b hb
    simp [va_up, hb]
end
section
/-! A RUN THAT NEVER LOOKS INTO CELL 1 (its shape is a poison: a class that no table names) goes the same way whatever lies there -/
def pt_M (row : Nat → Int32) (M : rf_M) : rf_M := (va_up M.1 1 row, M.2)
def pt_H (row : Nat → Int32) (sh : rf_S) (h : rf_H) : rf_H := (pt_M row h.1, va_up h.2.1 1 sh, h.2.2)
def pt_P : Nat := 999
theorem up_comm {α : Type} (f : Nat → α) {a b : Nat} (v w : α) (h : a ≠ b) : va_up (va_up f a v) b w = va_up (va_up f b w) a v := by
  funext j
  unfold va_up
  by_cases h1 : j = b
  · have h2 : ¬ j = a := fun z => h (z.symm.trans h1)
    simp [h1, h2, Ne.symm h]
  · simp [h1]
theorem pt_rd {row : Nat → Int32} {M : rf_M} {a : Nat} (ha : a ≠ 1) (ty : FieldType) (k : Nat) : rf_rd (pt_M row M) ty a k = rf_rd M ty a k := by
  cases ty <;> simp [rf_rd, pt_M, va_up, ha]
theorem pt_wi {row : Nat → Int32} {M : rf_M} {a : Nat} (ha : a ≠ 1) (k : Nat) (x : Int32) : rf_wi (pt_M row M) a k x = pt_M row (rf_wi M a k x) := by
  show (va_up (va_up M.1 1 row) a (va_up (va_up M.1 1 row a) k x), M.2.1, M.2.2) = (va_up (va_up M.1 a (va_up (M.1 a) k x)) 1 row, M.2.1, M.2.2)
  rw [up_comm M.1 _ _ ha, va_up_ne _ _ ha]
theorem pt_wl {row : Nat → Int32} {M : rf_M} {a : Nat} (k : Nat) (x : Int64) : rf_wl (pt_M row M) a k x = pt_M row (rf_wl M a k x) := rfl
theorem pt_wq {row : Nat → Int32} {M : rf_M} {a : Nat} (k : Nat) (x : Option Nat) : rf_wq (pt_M row M) a k x = pt_M row (rf_wq M a k x) := rfl
theorem pt_wr {row : Nat → Int32} {M M' : rf_M} {ty : FieldType} {a : Nat} (ha : a ≠ 1) {k : Nat} {v : Value} (h : rf_wr M ty a k v = some M') : rf_wr (pt_M row M) ty a k v = some (pt_M row M') := by
  unfold rf_wr at h ⊢
  split at h
  · cases h; simp only [pt_wi ha]
  · cases h; rfl
  · cases h; rfl
  · cases h; rfl
  · cases h; rfl
  · cases h; rfl
  · split at h
    · rename_i hc; cases h; simp only [pt_wi ha]; rw [if_pos hc]
    · cases h
  · split at h
    · rename_i hc; cases h; simp only [pt_wi ha]; rw [if_pos hc]
    · cases h
  · split at h
    · rename_i hc; cases h; simp only [pt_wi ha]; rw [if_pos hc]
    · cases h
  · split at h
    · rename_i hc; cases h; simp only [pt_wi ha]; rw [if_pos hc]
    · cases h
  · cases h
section PT
variable {row : Nat → Int32} {sh : rf_S} {h : rf_H}
theorem pt_ob {a : Nat} (ha : a ≠ 1) : rf_ob (pt_H row sh h) a = rf_ob h a := by
  unfold rf_ob
  show (if 0 < a ∧ a < h.2.2.1 then (match va_up h.2.1 1 sh a with | .inl ci => some ci | .inr _ => none) else none) = _
  rw [va_up_ne _ _ ha]
  rfl
theorem pt_aa {a : Nat} (ha : a ≠ 1) : rf_aa (pt_H row sh h) a = rf_aa h a := by
  unfold rf_aa
  show (if 0 < a ∧ a < h.2.2.1 then (match va_up h.2.1 1 sh a with | .inr q => some q | .inl _ => none) else none) = _
  rw [va_up_ne _ _ ha]
  rfl
theorem pt_ne_aa (hp : h.2.1 1 = .inl pt_P) {a : Nat} {q : FieldType × Nat} (hq : rf_aa h a = some q) : a ≠ 1 := by
  intro z
  subst z
  obtain ⟨-, -, h2⟩ := rf_aa_ok hq
  rw [hp] at h2
  cases h2
theorem pt_ne_ob (hp : h.2.1 1 = .inl pt_P) {a ci : Nat} (hq : rf_ob h a = some ci) (hc : ci ≠ pt_P) : a ≠ 1 := by
  intro z
  subst z
  obtain ⟨-, -, h2⟩ := rf_ob_ok hq
  rw [hp] at h2
  cases h2
  exact hc rfl
theorem pt_el (hp : h.2.1 1 = .inl pt_P) {ty : FieldType} {a : Nat} {j : Int32} {v : Value} (he : rf_el h ty a j = some v) : a ≠ 1 ∧ rf_el (pt_H row sh h) ty a j = some v := by
  obtain ⟨n, h1, h2, rfl⟩ := rf_el_ok he
  have ha := pt_ne_aa hp h1
  refine ⟨ha, ?_⟩
  unfold rf_el
  rw [pt_aa ha, h1]
  show (if ty = ty ∧ ¬ (j < 0 ∨ n ≤ j.toNatClampNeg) then some (rf_rd (pt_M row h.1) ty a j.toNatClampNeg) else none) = _
  rw [if_pos ⟨rfl, h2⟩, pt_rd ha]
theorem pt_nw (h22 : 1 < h.2.2.1) (s : rf_S) (N : Nat) : rf_nw (pt_H row sh h) s N = pt_H row sh (rf_nw h s N) := by
  have hne : h.2.2.1 ≠ 1 := by omega
  unfold rf_nw pt_H pt_M
  show ((va_up (va_up h.1.1 1 row) h.2.2.1 (fun _ => 0), va_up h.1.2.1 h.2.2.1 (fun _ => 0), va_up h.1.2.2 h.2.2.1 (fun _ => none)), va_up (va_up h.2.1 1 sh) h.2.2.1 s, h.2.2.1 + 1, h.2.2.2 + N) = _
  rw [up_comm h.1.1 _ _ (Ne.symm hne), up_comm h.2.1 _ _ (Ne.symm hne)]
theorem pt_elq {a : Nat} (ha : a ≠ 1) (ty : FieldType) (j : Int32) : rf_el (pt_H row sh h) ty a j = rf_el h ty a j := by
  unfold rf_el
  rw [pt_aa ha]
  cases rf_aa h a with
  | none => rfl
  | some q =>
    show (if q.1 = ty ∧ ¬ (j < 0 ∨ q.2 ≤ j.toNatClampNeg) then some (rf_rd (pt_M row h.1) ty a j.toNatClampNeg) else none) = _
    rw [pt_rd ha]
theorem pt_sh (hn : 1 < h.2.2.1) (hp : h.2.1 1 = .inl pt_P) (s : rf_S) (N : Nat) : (rf_nw h s N).2.1 1 = .inl pt_P ∧ 1 < (rf_nw h s N).2.2.1 := by
  refine ⟨?_, by show 1 < h.2.2.1 + 1; omega⟩
  show va_up h.2.1 h.2.2.1 s 1 = _
  rw [va_up_ne _ _ (by omega)]
  exact hp
/-- no table names the poison -/
def pt_no (cx : rf_C) : Prop := 1 < cx.2.2.2.2 ∧ ∀ (i pc : Nat) (I : rf_I), cx.1 i pc = some I → ∀ q ∈ I.2, q.1 ≠ rf_ky cx.2.2.2.2 1 pt_P ∧ q.1 ≠ (pt_P : Int)
set_option maxHeartbeats 4000000 in
theorem pt_hp {cx : rf_C} {I : Instr} {aux : List (Int × Nat)} (h1 : 1 < cx.2.2.2.2) (hno : ∀ q ∈ aux, q.1 ≠ rf_ky cx.2.2.2.2 1 pt_P ∧ q.1 ≠ (pt_P : Int)) (hp : h.2.1 1 = .inl pt_P) (hn : 1 < h.2.2.1) {st : List Value} {q' : List Value × rf_H} (he : rf_hp cx I aux st h = some q') : rf_hp cx I aux st (pt_H row sh h) = some (q'.1, pt_H row sh q'.2) ∧ q'.2.2.1 1 = .inl pt_P ∧ 1 < q'.2.2.2.1 := by
  have key : ∀ {a ci k : Nat}, rf_ob h a = some ci → rf_lk aux (rf_ky cx.2.2.2.2 a ci) = some k → a ≠ 1 := by
    intro a ci k h2 h3 z
    subst z
    obtain ⟨-, -, h4⟩ := rf_ob_ok h2
    rw [hp] at h4
    cases h4
    exact (hno _ (rf_lk_ok h3)).1 rfl
  have keyw : ∀ {a : Nat}, ¬ a < cx.2.2.2.2 → a ≠ 1 := fun z1 z2 => z1 (by rw [z2]; exact h1)
  unfold rf_hp at he ⊢
  split at he
  · split at he
    · rename_i ci hob
      split at he
      · rename_i k hlk
        cases he
        have ha := key hob hlk
        refine ⟨?_, hp, hn⟩
        dsimp only
        rw [pt_ob ha, hob]
        dsimp only
        rw [hlk]
        dsimp only
        exact congrArg (fun z => some (z :: _, pt_H row sh h)) (pt_rd ha _ _)
      · cases he
    · cases he
  · split at he
    · cases he
    · rename_i hlt
      have ha := keyw hlt
      split at he
      · rename_i ci hob
        split at he
        · rename_i k hlk
          split at he
          · rename_i M hwr
            cases he
            refine ⟨?_, hp, hn⟩
            dsimp only
            rw [if_neg hlt, pt_ob ha, hob]
            dsimp only
            rw [hlk]
            dsimp only
            have hw2 := pt_wr (row := row) ha hwr
            show (match rf_wr (pt_M row h.1) _ _ _ _ with | some M => some (_, (M, (pt_H row sh h).2)) | none => none) = _
            rw [hw2]
            rfl
          · cases he
        · cases he
      · cases he
  · split at he
    · rename_i v hv
      cases he
      have ha := (pt_el (row := row) (sh := sh) hp hv).1
      refine ⟨?_, hp, hn⟩
      dsimp only
      rw [pt_elq ha, hv]
    · cases he
  · split at he
    · rename_i v hv
      cases he
      have ha := (pt_el (row := row) (sh := sh) hp hv).1
      refine ⟨?_, hp, hn⟩
      dsimp only
      rw [pt_elq ha, hv]
    · cases he
  · split at he
    · rename_i v hv
      cases he
      have ha := (pt_el (row := row) (sh := sh) hp hv).1
      refine ⟨?_, hp, hn⟩
      dsimp only
      rw [pt_elq ha, hv]
    · rename_i hv0
      split at he
      · rename_i v hv
        cases he
        have ha := (pt_el (row := row) (sh := sh) hp hv).1
        refine ⟨?_, hp, hn⟩
        dsimp only
        rw [pt_elq ha, hv0]
        dsimp only
        rw [pt_elq ha, hv]
      · cases he
  · split at he
    · rename_i v hv
      cases he
      have ha := (pt_el (row := row) (sh := sh) hp hv).1
      refine ⟨?_, hp, hn⟩
      dsimp only
      rw [pt_elq ha, hv]
    · cases he
  · split at he
    · rename_i v hv
      cases he
      have ha := (pt_el (row := row) (sh := sh) hp hv).1
      refine ⟨?_, hp, hn⟩
      dsimp only
      rw [pt_elq ha, hv]
    · cases he
  · split at he
    · rename_i haa
      split at he
      · rename_i v hv
        cases he
        have ha := (pt_el (row := row) (sh := sh) hp hv).1
        refine ⟨?_, hp, hn⟩
        dsimp only
        rw [pt_aa ha, haa]
        dsimp only
        rw [pt_elq ha, hv]
      · cases he
    · rename_i haa
      split at he
      · rename_i v hv
        cases he
        have ha := (pt_el (row := row) (sh := sh) hp hv).1
        refine ⟨?_, hp, hn⟩
        dsimp only
        rw [pt_aa ha, haa]
        dsimp only
        rw [pt_elq ha, hv]
      · cases he
    · cases he
  · split at he
    · cases he
    · rename_i hlt
      have ha := keyw hlt
      split at he
      · rename_i v hv
        cases he
        refine ⟨?_, hp, hn⟩
        dsimp only
        rw [if_neg hlt, pt_elq ha, hv]
        exact congrArg (fun z : rf_M => some (_, (z, (pt_H row sh h).2))) (pt_wi ha _ _)
      · cases he
  · split at he
    · cases he
    · rename_i hlt
      have ha := keyw hlt
      split at he
      · rename_i v hv
        cases he
        refine ⟨?_, hp, hn⟩
        dsimp only
        rw [if_neg hlt, pt_elq ha, hv]
        exact congrArg (fun z : rf_M => some (_, (z, (pt_H row sh h).2))) (pt_wl _ _)
      · cases he
  · split at he
    · cases he
    · rename_i hlt
      have ha := keyw hlt
      split at he
      · rename_i v hv
        cases he
        refine ⟨?_, hp, hn⟩
        dsimp only
        rw [if_neg hlt, pt_elq ha, hv]
        exact congrArg (fun z : rf_M => some (_, (z, (pt_H row sh h).2))) (pt_wi ha _ _)
      · rename_i hv0
        split at he
        · rename_i v hv
          cases he
          refine ⟨?_, hp, hn⟩
          dsimp only
          rw [if_neg hlt, pt_elq ha, hv0]
          dsimp only
          rw [pt_elq ha, hv]
          exact congrArg (fun z : rf_M => some (_, (z, (pt_H row sh h).2))) (pt_wi ha _ _)
        · cases he
  · split at he
    · cases he
    · rename_i hlt
      have ha := keyw hlt
      split at he
      · rename_i v hv
        cases he
        refine ⟨?_, hp, hn⟩
        dsimp only
        rw [if_neg hlt, pt_elq ha, hv]
        exact congrArg (fun z : rf_M => some (_, (z, (pt_H row sh h).2))) (pt_wi ha _ _)
      · cases he
  · split at he
    · cases he
    · rename_i hlt
      have ha := keyw (fun z => hlt (Or.inl z))
      have hb := keyw (fun z => hlt (Or.inr z))
      split at he
      · rename_i haa hob
        split at he
        · rename_i hc
          cases he
          refine ⟨?_, hp, hn⟩
          dsimp only
          rw [if_neg hlt, pt_aa ha, pt_ob hb, haa, hob]
          dsimp only
          rw [if_pos hc]
          rfl
        · cases he
      · cases he
  · split at he
    · cases he
    · rename_i hlt
      have ha := keyw hlt
      split at he
      · rename_i haa
        split at he
        · rename_i hc
          cases he
          refine ⟨?_, hp, hn⟩
          dsimp only
          rw [if_neg hlt, pt_aa ha, haa]
          dsimp only
          rw [if_pos hc]
          rfl
        · cases he
      · cases he
  · split at he
    · rename_i q hq
      cases he
      have ha := pt_ne_aa hp hq
      refine ⟨?_, hp, hn⟩
      dsimp only
      rw [pt_aa ha, hq]
    · cases he
  · split at he
    · split at he
      · rename_i q hq
        cases he
        obtain ⟨z1, z2⟩ := pt_sh hn hp _ _
        refine ⟨?_, z1, z2⟩
        dsimp only
        rw [pt_nw hn]
        rfl
      · cases he
    · cases he
  · split at he
    · rename_i hc
      cases he
      obtain ⟨z1, z2⟩ := pt_sh hn hp _ _
      refine ⟨?_, z1, z2⟩
      dsimp only
      rw [if_pos hc, pt_nw hn]
      rfl
    · cases he
  · split at he
    · split at he
      · rename_i q hq
        split at he
        · rename_i hc
          cases he
          obtain ⟨z1, z2⟩ := pt_sh hn hp _ _
          refine ⟨?_, z1, z2⟩
          dsimp only
          rw [if_pos hc, pt_nw hn]
          rfl
        · cases he
      · cases he
    · cases he
  · cases he
set_option maxHeartbeats 4000000 in
theorem pt_bi {cx : rf_C} {kd : Int} {d : Nat × Nat} (h1 : 1 < cx.2.2.2.2) (hp : h.2.1 1 = .inl pt_P) (hn : 1 < h.2.2.1) {st : List Value} {q' : List Value × rf_H} (he : rf_bi cx kd d st h = some q') : rf_bi cx kd d st (pt_H row sh h) = some (q'.1, pt_H row sh q'.2) ∧ q'.2.2.1 1 = .inl pt_P ∧ 1 < q'.2.2.2.1 := by
  have keyw : ∀ {a : Nat}, ¬ a < cx.2.2.2.2 → a ≠ 1 := fun z1 z2 => z1 (by rw [z2]; exact h1)
  unfold rf_bi at he ⊢
  split at he
  · rename_i hk
    rw [if_pos hk]
    split at he
    · split at he
      · rename_i h8
        cases he
        refine ⟨?_, hp, hn⟩
        rw [if_pos h8]
      · cases he
    · cases he
  · rename_i hk
    rw [if_neg hk]
    split at he
    · rename_i hk
      rw [if_pos hk]
      split at he
      · split at he
        · rename_i h8
          have ha := keyw h8.2.1
          have hb := keyw h8.2.2.1
          rw [if_pos h8, pt_aa ha, pt_aa hb]
          split at he
          · rename_i e1 e2
            split at he
            · rename_i hc
              cases he
              refine ⟨?_, hp, hn⟩
              rw [if_pos hc]
              refine congrArg (fun z : rf_M => some (_, (z, (pt_H row sh h).2))) ?_
              show (va_up (va_up h.1.1 1 row) _ (va_cpy (va_up h.1.1 1 row _) (va_up h.1.1 1 row _) _ _ _), h.1.2.1, h.1.2.2) = (va_up (va_up h.1.1 _ _) 1 row, h.1.2.1, h.1.2.2)
              rw [va_up_ne _ _ ha, va_up_ne _ _ hb, up_comm h.1.1 _ _ ha]
            · cases he
          · rename_i e1 e2
            split at he
            · rename_i hc
              cases he
              refine ⟨?_, hp, hn⟩
              rw [if_pos hc]
              rfl
            · cases he
          · cases he
        · cases he
      · cases he
    · rename_i hk
      rw [if_neg hk]
      split at he
      · rename_i hk
        rw [if_pos hk]
        split at he
        · split at he
          · rename_i h8
            cases he
            refine ⟨?_, hp, hn⟩
            rw [if_pos h8]
          · cases he
        · cases he
      · rename_i hk
        rw [if_neg hk]
        split at he
        · rename_i hk
          rw [if_pos hk]
          split at he
          · split at he
            · rename_i h8
              cases he
              refine ⟨?_, hp, hn⟩
              rw [if_pos h8]
            · cases he
          · cases he
        · cases he
theorem pt_ca {cx : rf_C} {I : Instr} {aux : List (Int × Nat)} (hno : ∀ q ∈ aux, q.1 ≠ rf_ky cx.2.2.2.2 1 pt_P ∧ q.1 ≠ (pt_P : Int)) (hp : h.2.1 1 = .inl pt_P) {st : List Value} {q : Nat × List Value × List Value} (he : rf_ca cx I aux st h = some q) : rf_ca cx I aux st (pt_H row sh h) = some q := by
  unfold rf_ca at he ⊢
  split at he
  · rename_i q0 tg
    split at he
    · rename_i a r heq
      split at he
      · rename_i ci hob
        split at he
        · rename_i j hlk
          have ha : a ≠ 1 := fun z => by
            subst z
            obtain ⟨-, -, h4⟩ := rf_ob_ok hob
            rw [hp] at h4
            cases h4
            exact (hno _ (List.mem_cons_of_mem _ (rf_lk_ok hlk))).1 rfl
          rw [pt_ob ha, hob]
          dsimp only
          rw [hlk]
          exact he
        · cases he
      · cases he
    · exact he
    · exact he
    · cases he
  · cases he
set_option maxHeartbeats 4000000 in
theorem pt_ev {cx : rf_C} (hno : pt_no cx) : ∀ (n : Nat) (d : Nat × Nat) (i pc : Nat) (ls : rf_L) (st : List Value) (h : rf_H) (r : Option Value) (hF : rf_H), h.2.1 1 = .inl pt_P → 1 < h.2.2.1 → rf_ev cx n d i pc ls st h = some (r, hF) → rf_ev cx n d i pc ls st (pt_H row sh h) = some (r, pt_H row sh hF) ∧ hF.2.1 1 = .inl pt_P ∧ 1 < hF.2.2.1 := by
  intro n
  induction n with
  | zero =>
    intro d i pc ls st h r hF hp hn he
    unfold rf_ev at he
    cases he
  | succ n ih =>
    intro d i pc ls st h r hF hp hn he
    unfold rf_ev at he ⊢
    cases hf : cx.1 i pc with
    | none => rw [hf] at he; cases he
    | some I =>
      have hno2 := hno.2 i pc I hf
      rw [hf] at he
      dsimp only at he ⊢
      cases hx : rf_ex cx d i pc I ls st h with
      | none => rw [hx] at he; cases he
      | some o =>
        rw [hx] at he
        unfold rf_ex at hx
        rcases o with q | q | v
        · have hnx : ∃ h', q.2.2.2 = h' ∧ rf_ex cx d i pc I ls st (pt_H row sh h) = some (.inl (q.1, q.2.1, q.2.2.1, pt_H row sh h')) ∧ h'.2.1 1 = .inl pt_P ∧ 1 < h'.2.2.1 := by
            unfold rf_ex
            split at hx
            · obtain ⟨x, q1, q2⟩ := Option.map_eq_some_iff.mp hx
              have q2 := Sum.inl.inj q2; subst q2
              exact ⟨h, rfl, by rw [q1]; rfl, hp, hn⟩
            · obtain ⟨x, q1, q2⟩ := Option.map_eq_some_iff.mp hx
              have q2 := Sum.inl.inj q2; subst q2
              exact ⟨h, rfl, by rw [q1]; rfl, hp, hn⟩
            · obtain ⟨x, q1, q2⟩ := Option.map_eq_some_iff.mp hx
              have q2 := Sum.inl.inj q2; subst q2
              exact ⟨h, rfl, by rw [q1]; rfl, hp, hn⟩
            · obtain ⟨x, q1, q2⟩ := Option.map_eq_some_iff.mp hx
              have q2 := Sum.inl.inj q2; subst q2
              exact ⟨h, rfl, by rw [q1]; rfl, hp, hn⟩
            · obtain ⟨x, q1, q2⟩ := Option.map_eq_some_iff.mp hx
              have q2 := Sum.inl.inj q2; subst q2
              obtain ⟨z1, z2, z3⟩ := pt_hp (row := row) (sh := sh) hno.1 hno2 hp hn q1
              exact ⟨x.2, rfl, by rw [z1]; rfl, z2, z3⟩
            · split at hx
              · rename_i hk
                obtain ⟨x, q1, q2⟩ := Option.map_eq_some_iff.mp hx
                have q2 := Sum.inl.inj q2; subst q2
                obtain ⟨z1, z2, z3⟩ := pt_bi (row := row) (sh := sh) hno.1 hp hn q1
                exact ⟨x.2, rfl, by rw [if_pos hk, z1]; rfl, z2, z3⟩
              · obtain ⟨x, q1, q2⟩ := Option.map_eq_some_iff.mp hx
                cases q2
            · obtain ⟨x, q1, q2⟩ := Option.map_eq_some_iff.mp hx
              cases q2
            · obtain ⟨x, q1, q2⟩ := Option.map_eq_some_iff.mp hx
              have q2 := Sum.inl.inj q2; subst q2
              exact ⟨h, rfl, by rw [q1]; rfl, hp, hn⟩
            · cases hx
          obtain ⟨h', e1, e2, e3, e4⟩ := hnx
          rw [e2]
          dsimp only at he ⊢
          rw [e1] at he
          exact ih _ _ _ _ _ _ _ _ e3 e4 he
        · have hnx : rf_ex cx d i pc I ls st (pt_H row sh h) = some (.inr (.inl q)) := by
            unfold rf_ex
            split at hx
            all_goals first
              | (obtain ⟨x, q1, q2⟩ := Option.map_eq_some_iff.mp hx; cases q2; done)
              | (cases hx; done)
              | skip
            split at hx
            · obtain ⟨x, q1, q2⟩ := Option.map_eq_some_iff.mp hx
              cases q2
            · rename_i hk
              obtain ⟨x, q1, q2⟩ := Option.map_eq_some_iff.mp hx
              rw [if_neg hk, pt_ca hno2 hp q1, Option.map_some, q2]
          rw [hnx]
          dsimp only at he ⊢
          split at he
          · rename_i hc
            rw [if_pos hc]
            cases hcal : rf_ev cx n (d.1 - 1, d.2 - ((cx.2.1 q.1).2.2.1 + 19)) q.1 0 (lv_args 0 q.2.1) [] h with
            | none => rw [hcal] at he; cases he
            | some rr =>
              rw [hcal] at he
              obtain ⟨z1, z2, z3⟩ := ih _ _ _ _ _ _ rr.1 rr.2 hp hn hcal
              rw [z1]
              exact ih _ _ _ _ _ _ _ _ z2 z3 he
          · cases he
        · have hnx : rf_ex cx d i pc I ls st (pt_H row sh h) = some (.inr (.inr v)) := by
            unfold rf_ex
            split at hx
            all_goals first
              | (obtain ⟨x, q1, q2⟩ := Option.map_eq_some_iff.mp hx; cases q2; done)
              | (cases hx; done)
              | skip
            · split at hx
              · obtain ⟨x, q1, q2⟩ := Option.map_eq_some_iff.mp hx
                cases q2
              · obtain ⟨x, q1, q2⟩ := Option.map_eq_some_iff.mp hx
                cases q2
            · exact hx
          rw [hnx]
          dsimp only at he ⊢
          cases he
          exact ⟨rfl, hp, hn⟩
end PT
end
section
/-! THE TWO CONSTRUCTORS, by the kernel, over a heap whose script cell is a poison -/
def ml_no (e : rf_E1) : Bool := e.2.2.all (fun q => q.2.1.2.all (fun z => !(z.1 == -1000) && !(z.1 == 999)))
theorem ml0_no (fz : Bool) : (ml0 fz).all ml_no = true := by cases fz <;> decide +kernel
theorem cx0_no (fz : Bool) : pt_no (cx0 fz) := by
  refine ⟨show 1 < 22 from Nat.le_of_ble_eq_true rfl, fun i pc I h q hq => ?_⟩
  have h0 : (((ml0 fz).getD i rf_dm).2.2.find? (fun q => q.1 == pc)).map (fun q => q.2.1) = some I := h
  obtain ⟨e, he, heI⟩ := Option.map_eq_some_iff.mp h0
  have hmem := List.mem_of_find?_eq_some he
  have hi : i < (ml0 fz).length := by
    rcases Nat.lt_or_ge i (ml0 fz).length with z | z
    · exact z
    · have h9 : (ml0 fz).getD i rf_dm = rf_dm := by simp [List.getD_eq_getElem?_getD, List.getElem?_eq_none z]
      rw [h9] at hmem
      cases hmem
  have hin : (ml0 fz).getD i rf_dm ∈ ml0 fz := by
    rw [List.getD_eq_getElem?_getD, List.getElem?_eq_getElem hi]
    exact List.getElem_mem hi
  have h1 := List.all_eq_true.mp (ml0_no fz) _ hin
  have h2 := List.all_eq_true.mp h1 _ hmem
  have h3 := List.all_eq_true.mp h2 q (by rw [heI]; exact hq)
  simp only [Bool.and_eq_true, Bool.not_eq_true', beq_eq_false_iff_ne] at h3
  exact ⟨h3.1, h3.2⟩
def hPo : rf_H := (h0M (fun _ => 0), va_up (h0S 0) 1 (.inl pt_P), 22, 0)
theorem hPo_pt (L : Nat) (xs : Nat → Int32) : pt_H xs (.inr (.int, L)) hPo = h00 L xs := by
  have e1 : va_up (h0M (fun _ => 0)).1 1 xs = (h0M xs).1 := by
    funext a
    unfold va_up
    by_cases ha : a = 1
    · rw [if_pos ha]; funext j; simp [h0M, ha]
    · rw [if_neg ha]; funext j; simp [h0M, ha]
  have e2 : va_up (va_up (h0S 0) 1 (.inl pt_P)) 1 (.inr (.int, L)) = h0S L := by
    funext a
    unfold va_up
    by_cases ha : a = 1
    · rw [if_pos ha]; simp [h0S, ha]
    · rw [if_neg ha, if_neg ha]; simp [h0S, ha]
  show ((va_up (h0M (fun _ => 0)).1 1 xs, _), va_up (va_up (h0S 0) 1 (.inl pt_P)) 1 (.inr (.int, L)), 22, 0) = h00 L xs
  rw [e1, e2]
  rfl
def K1r (fz : Bool) : Option (Option Value × rf_H) := rf_ev (cx0 fz) 3000 (2000, 80000) 1 0 [(0, .ref 22)] [] (rf_nw hPo (.inl 0) 10)
def K1 (fz : Bool) : rf_H := ((K1r fz).getD (none, hPo)).2
theorem K1_ok (fz : Bool) : (K1r fz).map (fun q => (q.1, q.2.2.2.1, q.2.2.2.2)) = some (none, 353, (K1 fz).2.2.2) ∧ (K1 fz).2.2.1 = 353 := by cases fz <;> decide +kernel
theorem K1_eq (fz : Bool) : K1r fz = some (none, K1 fz) := by
  have h := (K1_ok fz).1
  unfold K1
  cases hk : K1r fz with
  | none => rw [hk] at h; cases h
  | some q =>
    rw [hk] at h
    have h2 : q.1 = none := (Prod.mk.inj (Option.some.inj h)).1
    obtain ⟨q1, q2⟩ := q
    dsimp only at h2
    subst h2
    rfl
end
section
def K2r (fz : Bool) : Option (Option Value × rf_H) := rf_ev (cx0 fz) 3000 (2000, 80000) 127 0 [(0, .ref 353)] [] (rf_nw (K1 fz) (.inl 11) 76)
def K2 (fz : Bool) : rf_H := ((K2r fz).getD (none, hPo)).2
theorem K2_ok (fz : Bool) : (K2r fz).map (fun q => (q.1, q.2.2.2.1, q.2.2.2.2)) = some (none, 406, 49191) := by cases fz <;> decide +kernel
theorem K2_eq (fz : Bool) : K2r fz = some (none, K2 fz) := by
  have h := K2_ok fz
  unfold K2
  cases hk : K2r fz with
  | none => rw [hk] at h; cases h
  | some q =>
    rw [hk] at h
    have h2 : q.1 = none := (Prod.mk.inj (Option.some.inj h)).1
    obtain ⟨q1, q2⟩ := q
    dsimp only at h2
    subst h2
    rfl
/-- the heap behind the two constructors, with the script in it -/
def HK (fz : Bool) (L : Nat) (xs : Nat → Int32) : rf_H := pt_H xs (.inr (.int, L)) (K2 fz)
theorem pt_new {row : Nat → Int32} {sh : rf_S} {h : rf_H} (hn : 1 < h.2.2.1) (s : rf_S) (N : Nat) : pt_H row sh (rf_nw h s N) = rf_nw (pt_H row sh h) s N := (pt_nw hn s N).symm
theorem pt_n (row : Nat → Int32) (sh : rf_S) (h : rf_H) : (pt_H row sh h).2.2.1 = h.2.2.1 := rfl
set_option maxHeartbeats 4000000 in
/-- the law, from its entry up to its loop -/
theorem law_made (fz : Bool) (L : Nat) (xs : Nat → Int32) {Q : Option Value → rf_H → Prop} (k : gx (cx0 fz) (2048, 84000) 0 16 [(2, .ref 353), (1, .ref 22), (0, .ref 1)] [] (HK fz L xs) Q) : gx (cx0 fz) (2048, 84000) 0 0 [(0, .ref 1)] [] (h00 L xs) Q := by
  have hp0 : hPo.2.1 1 = .inl pt_P := va_up_self (h0S 0) 1 (.inl pt_P)
  have hn0 : 1 < hPo.2.2.1 := show 1 < 22 from Nat.le_of_ble_eq_true rfl
  obtain ⟨p1, n1⟩ := pt_sh hn0 hp0 (.inl 0) 10
  obtain ⟨r1, p2, n2⟩ := pt_ev (row := xs) (sh := .inr (.int, L)) (cx0_no fz) _ _ _ _ _ _ _ none (K1 fz) p1 n1 (K1_eq fz)
  obtain ⟨p3, n3⟩ := pt_sh n2 p2 (.inl 11) 76
  obtain ⟨r2, p4, n4⟩ := pt_ev (row := xs) (sh := .inr (.int, L)) (cx0_no fz) _ _ _ _ _ _ _ none (K2 fz) p3 n3 (K2_eq fz)
  rw [pt_new hn0, hPo_pt] at r1
  rw [pt_new n2] at r2
  refine g4 (n := 3) (st' := [.ref 22]) (h' := rf_nw (h00 L xs) (.inl 0) 10) rfl rfl rfl rfl ?_
  refine g0 rfl rfl rfl ?_
  refine gx_call (j := 1) (as := [.ref 22]) (rest := [.ref 22]) rfl rfl ⟨Nat.le_of_ble_eq_true rfl, Nat.le_of_ble_eq_true rfl, Nat.le_of_ble_eq_true rfl⟩ ?_
  refine gx_room (d := (2000, 80000)) ⟨_, _, _, r1, ?_⟩ (Nat.le_of_ble_eq_true rfl) (Nat.le_of_ble_eq_true rfl)
  have hc : (pt_H xs (.inr (.int, L)) (K1 fz)).2.2.1 = 353 := (pt_n xs (.inr (.int, L)) (K1 fz)).trans (K1_ok fz).2
  generalize pt_H xs (.inr (.int, L)) (K1 fz) = hk1 at hc r2 ⊢
  refine g2 (n := 1) rfl rfl rfl rfl ?_
  refine g4 (n := 3) (st' := [.ref 353]) (h' := rf_nw hk1 (.inl 11) 76) rfl rfl rfl ?_ ?_
  · show some ([Value.ref hk1.2.2.1], rf_nw hk1 (.inl 11) 76) = _
    rw [hc]
  refine g0 rfl rfl rfl ?_
  refine gx_call (j := 127) (as := [.ref 353]) (rest := [.ref 353]) rfl rfl ⟨Nat.le_of_ble_eq_true rfl, Nat.le_of_ble_eq_true rfl, Nat.le_of_ble_eq_true rfl⟩ ?_
  refine gx_room (d := (2000, 80000)) ⟨_, _, _, r2, ?_⟩ (Nat.le_of_ble_eq_true rfl) (Nat.le_of_ble_eq_true rfl)
  refine g2 (n := 1) rfl rfl rfl rfl ?_
  exact k
end
section
/-! WHAT THE CONSTRUCTORS HAVE MADE: shapes, references (printed by wip/tools/facts.py) -/
def shK : List rf_S := [.inl 0, .inr (.int, 800), .inr ((.object "MemoryTransactions$Program"), 12), .inl 1, .inr (.int, 40), .inr (.int, 40), .inr (.int, 40), .inr (.int, 40), .inr (.int, 40), .inr (.int, 40), .inr (.int, 40), .inr (.int, 40), .inr (.int, 40), .inr (.int, 160), .inr (.int, 160), .inl 1, .inr (.int, 40), .inr (.int, 40), .inr (.int, 40), .inr (.int, 40), .inr (.int, 40), .inr (.int, 40), .inr (.int, 40), .inr (.int, 40), .inr (.int, 40), .inr (.int, 160), .inr (.int, 160), .inl 1, .inr (.int, 40), .inr (.int, 40), .inr (.int, 40), .inr (.int, 40), .inr (.int, 40), .inr (.int, 40), .inr (.int, 40), .inr (.int, 40), .inr (.int, 40), .inr (.int, 160), .inr (.int, 160), .inl 1, .inr (.int, 40), .inr (.int, 40), .inr (.int, 40), .inr (.int, 40), .inr (.int, 40), .inr (.int, 40), .inr (.int, 40), .inr (.int, 40), .inr (.int, 40), .inr (.int, 160), .inr (.int, 160), .inl 1, .inr (.int, 40), .inr (.int, 40), .inr (.int, 40), .inr (.int, 40), .inr (.int, 40), .inr (.int, 40), .inr (.int, 40), .inr (.int, 40), .inr (.int, 40), .inr (.int, 160), .inr (.int, 160), .inl 1, .inr (.int, 40), .inr (.int, 40), .inr (.int, 40), .inr (.int, 40), .inr (.int, 40), .inr (.int, 40), .inr (.int, 40), .inr (.int, 40), .inr (.int, 40), .inr (.int, 160), .inr (.int, 160), .inl 1, .inr (.int, 40), .inr (.int, 40), .inr (.int, 40), .inr (.int, 40), .inr (.int, 40), .inr (.int, 40), .inr (.int, 40), .inr (.int, 40), .inr (.int, 40), .inr (.int, 160), .inr (.int, 160), .inl 1, .inr (.int, 40), .inr (.int, 40), .inr (.int, 40), .inr (.int, 40), .inr (.int, 40), .inr (.int, 40), .inr (.int, 40), .inr (.int, 40), .inr (.int, 40), .inr (.int, 160), .inr (.int, 160), .inl 1, .inr (.int, 40), .inr (.int, 40), .inr (.int, 40), .inr (.int, 40), .inr (.int, 40), .inr (.int, 40), .inr (.int, 40), .inr (.int, 40), .inr (.int, 40), .inr (.int, 160), .inr (.int, 160), .inl 1, .inr (.int, 40), .inr (.int, 40), .inr (.int, 40), .inr (.int, 40), .inr (.int, 40), .inr (.int, 40), .inr (.int, 40), .inr (.int, 40), .inr (.int, 40), .inr (.int, 160), .inr (.int, 160), .inl 1, .inr (.int, 40), .inr (.int, 40), .inr (.int, 40), .inr (.int, 40), .inr (.int, 40), .inr (.int, 40), .inr (.int, 40), .inr (.int, 40), .inr (.int, 40), .inr (.int, 160), .inr (.int, 160), .inl 1, .inr (.int, 40), .inr (.int, 40), .inr (.int, 40), .inr (.int, 40), .inr (.int, 40), .inr (.int, 40), .inr (.int, 40), .inr (.int, 40), .inr (.int, 40), .inr (.int, 160), .inr (.int, 160), .inl 2, .inl 3, .inr (.int, 801), .inr (.int, 801), .inr (.int, 801), .inr (.int, 0), .inl 1, .inr (.int, 40), .inr (.int, 40), .inr (.int, 40), .inr (.int, 40), .inr (.int, 40), .inr (.int, 40), .inr (.int, 40), .inr (.int, 40), .inr (.int, 40), .inr (.int, 160), .inr (.int, 160), .inl 4, .inr (.long, 16), .inr (.int, 16), .inr ((.object "MemoryTransactions$Program"), 32), .inr (.int, 32), .inr (.long, 16), .inl 5, .inr (.long, 60), .inr ((.object "MemoryTransactions$Client"), 8), .inl 6, .inr (.int, 16), .inr (.int, 16), .inl 7, .inr (.int, 16), .inl 8, .inr (.long, 16), .inr (.long, 10), .inr (.int, 300), .inr (.int, 8), .inr (.long, 128), .inr (.long, 80), .inr (.int, 8), .inr (.long, 16), .inl 5, .inr (.long, 60), .inl 6, .inr (.int, 16), .inr (.int, 16), .inl 7, .inr (.int, 16), .inl 8, .inr (.long, 16), .inr (.long, 10), .inr (.int, 300), .inr (.int, 8), .inr (.long, 128), .inr (.long, 80), .inr (.int, 8), .inr (.long, 16), .inl 5, .inr (.long, 60), .inl 6, .inr (.int, 16), .inr (.int, 16), .inl 7, .inr (.int, 16), .inl 8, .inr (.long, 16), .inr (.long, 10), .inr (.int, 300), .inr (.int, 8), .inr (.long, 128), .inr (.long, 80), .inr (.int, 8), .inr (.long, 16), .inl 5, .inr (.long, 60), .inl 6, .inr (.int, 16), .inr (.int, 16), .inl 7, .inr (.int, 16), .inl 8, .inr (.long, 16), .inr (.long, 10), .inr (.int, 300), .inr (.int, 8), .inr (.long, 128), .inr (.long, 80), .inr (.int, 8), .inr (.long, 16), .inl 5, .inr (.long, 60), .inl 6, .inr (.int, 16), .inr (.int, 16), .inl 7, .inr (.int, 16), .inl 8, .inr (.long, 16), .inr (.long, 10), .inr (.int, 300), .inr (.int, 8), .inr (.long, 128), .inr (.long, 80), .inr (.int, 8), .inr (.long, 16), .inl 5, .inr (.long, 60), .inl 6, .inr (.int, 16), .inr (.int, 16), .inl 7, .inr (.int, 16), .inl 8, .inr (.long, 16), .inr (.long, 10), .inr (.int, 300), .inr (.int, 8), .inr (.long, 128), .inr (.long, 80), .inr (.int, 8), .inr (.long, 16), .inl 5, .inr (.long, 60), .inl 6, .inr (.int, 16), .inr (.int, 16), .inl 7, .inr (.int, 16), .inl 8, .inr (.long, 16), .inr (.long, 10), .inr (.int, 300), .inr (.int, 8), .inr (.long, 128), .inr (.long, 80), .inr (.int, 8), .inr (.long, 16), .inl 5, .inr (.long, 60), .inl 6, .inr (.int, 16), .inr (.int, 16), .inl 7, .inr (.int, 16), .inl 8, .inr (.long, 16), .inr (.long, 10), .inr (.int, 300), .inr (.int, 8), .inr (.long, 128), .inr (.long, 80), .inr (.int, 8), .inr (.long, 16), .inl 5, .inr (.long, 60), .inl 9, .inr (.int, 300), .inr (.int, 300), .inr (.int, 300), .inr (.int, 300), .inr (.int, 300), .inr (.long, 300), .inl 10, .inl 4, .inr (.long, 16), .inr (.int, 16), .inr ((.object "MemoryTransactions$Program"), 32), .inr (.int, 32), .inr (.long, 16), .inl 5, .inr (.long, 60), .inl 7, .inr (.int, 16), .inl 8, .inr (.long, 16), .inr (.long, 10), .inr (.int, 300), .inr (.int, 8), .inr (.long, 128), .inr (.long, 80), .inr (.int, 8), .inr (.long, 16), .inl 5, .inr (.long, 60), .inl 11, .inr (.byte, 800), .inr (.int, 12), .inr (.int, 12), .inr (.int, 12), .inr (.int, 12), .inr (.int, 12), .inr (.int, 480), .inr (.int, 480), .inr (.int, 480), .inr (.int, 480), .inr (.int, 480), .inr (.int, 480), .inr (.int, 480), .inr (.int, 480), .inr (.int, 2400), .inr (.int, 2400), .inr (.long, 2400), .inr (.int, 64), .inr (.boolean, 16), .inr (.int, 10), .inr (.int, 10), .inr (.int, 10), .inr (.long, 32), .inr (.int, 32), .inr (.int, 2), .inr (.int, 64), .inr (.int, 128), .inr (.int, 8), .inr (.int, 8), .inr (.int, 8), .inr (.int, 8), .inr (.boolean, 8), .inr (.int, 8), .inr (.long, 128), .inr (.int, 128), .inr (.long, 16), .inr (.int, 16), .inr (.long, 16), .inr (.long, 10), .inr (.int, 400), .inr (.int, 480), .inr (.long, 7680), .inr (.long, 4800), .inr (.int, 480), .inr (.long, 64), .inr (.long, 16), .inr (.int, 300), .inr (.int, 300), .inr (.int, 300), .inr (.int, 300), .inr (.int, 300), .inr (.long, 300)]
def shD : rf_S := .inl 0
theorem K2_sh (fz : Bool) : (List.range 384).all (fun k => decide ((K2 fz).2.1 (k + 22) = shK.getD k shD)) = true := by cases fz <;> decide +kernel
def rfK : List (Nat × Nat × Nat) := [(22, 0, 23), (22, 2, 24), (22, 5, 169), (22, 6, 187), (22, 7, 195), (22, 8, 324), (22, 9, 331), (24, 0, 25), (24, 1, 37), (24, 2, 49), (24, 3, 61), (24, 4, 73), (24, 5, 85), (24, 6, 97), (24, 7, 109), (24, 8, 121), (24, 9, 133), (24, 10, 145), (24, 11, 157), (25, 5, 26), (25, 6, 27), (25, 7, 28), (25, 8, 29), (25, 9, 30), (25, 10, 31), (25, 11, 32), (25, 12, 33), (25, 13, 34), (25, 14, 35), (25, 15, 36), (37, 5, 38), (37, 6, 39), (37, 7, 40), (37, 8, 41), (37, 9, 42), (37, 10, 43), (37, 11, 44), (37, 12, 45), (37, 13, 46), (37, 14, 47), (37, 15, 48), (49, 5, 50), (49, 6, 51), (49, 7, 52), (49, 8, 53), (49, 9, 54), (49, 10, 55), (49, 11, 56), (49, 12, 57), (49, 13, 58), (49, 14, 59), (49, 15, 60), (61, 5, 62), (61, 6, 63), (61, 7, 64), (61, 8, 65), (61, 9, 66), (61, 10, 67), (61, 11, 68), (61, 12, 69), (61, 13, 70), (61, 14, 71), (61, 15, 72), (73, 5, 74), (73, 6, 75), (73, 7, 76), (73, 8, 77), (73, 9, 78), (73, 10, 79), (73, 11, 80), (73, 12, 81), (73, 13, 82), (73, 14, 83), (73, 15, 84), (85, 5, 86), (85, 6, 87), (85, 7, 88), (85, 8, 89), (85, 9, 90), (85, 10, 91), (85, 11, 92), (85, 12, 93), (85, 13, 94), (85, 14, 95), (85, 15, 96), (97, 5, 98), (97, 6, 99), (97, 7, 100), (97, 8, 101), (97, 9, 102), (97, 10, 103), (97, 11, 104), (97, 12, 105), (97, 13, 106), (97, 14, 107), (97, 15, 108), (109, 5, 110), (109, 6, 111), (109, 7, 112), (109, 8, 113), (109, 9, 114), (109, 10, 115), (109, 11, 116), (109, 12, 117), (109, 13, 118), (109, 14, 119), (109, 15, 120), (121, 5, 122), (121, 6, 123), (121, 7, 124), (121, 8, 125), (121, 9, 126), (121, 10, 127), (121, 11, 128), (121, 12, 129), (121, 13, 130), (121, 14, 131), (121, 15, 132), (133, 5, 134), (133, 6, 135), (133, 7, 136), (133, 8, 137), (133, 9, 138), (133, 10, 139), (133, 11, 140), (133, 12, 141), (133, 13, 142), (133, 14, 143), (133, 15, 144), (145, 5, 146), (145, 6, 147), (145, 7, 148), (145, 8, 149), (145, 9, 150), (145, 10, 151), (145, 11, 152), (145, 12, 153), (145, 13, 154), (145, 14, 155), (145, 15, 156), (157, 5, 158), (157, 6, 159), (157, 7, 160), (157, 8, 161), (157, 9, 162), (157, 10, 163), (157, 11, 164), (157, 12, 165), (157, 13, 166), (157, 14, 167), (157, 15, 168), (169, 0, 170), (169, 1, 175), (170, 0, 171), (170, 1, 172), (170, 2, 173), (170, 4, 174), (175, 5, 176), (175, 6, 177), (175, 7, 178), (175, 8, 179), (175, 9, 180), (175, 10, 181), (175, 11, 182), (175, 12, 183), (175, 13, 184), (175, 14, 185), (175, 15, 186), (187, 0, 188), (187, 1, 189), (187, 3, 190), (187, 4, 191), (187, 5, 192), (187, 6, 193), (193, 0, 194), (195, 0, 196), (195, 1, 212), (195, 2, 228), (195, 3, 244), (195, 4, 260), (195, 5, 276), (195, 6, 292), (195, 7, 308), (196, 3, 197), (196, 4, 199), (196, 7, 198), (199, 0, 25), (199, 4, 200), (199, 5, 201), (199, 7, 209), (199, 8, 187), (199, 9, 210), (201, 1, 202), (201, 2, 203), (201, 4, 204), (201, 5, 205), (201, 6, 206), (201, 7, 207), (201, 8, 208), (210, 0, 211), (212, 3, 213), (212, 4, 215), (212, 7, 214), (215, 0, 25), (215, 4, 216), (215, 5, 217), (215, 7, 225), (215, 8, 187), (215, 9, 226), (217, 1, 218), (217, 2, 219), (217, 4, 220), (217, 5, 221), (217, 6, 222), (217, 7, 223), (217, 8, 224), (226, 0, 227), (228, 3, 229), (228, 4, 231), (228, 7, 230), (231, 0, 25), (231, 4, 232), (231, 5, 233), (231, 7, 241), (231, 8, 187), (231, 9, 242), (233, 1, 234), (233, 2, 235), (233, 4, 236), (233, 5, 237), (233, 6, 238), (233, 7, 239), (233, 8, 240), (242, 0, 243), (244, 3, 245), (244, 4, 247), (244, 7, 246), (247, 0, 25), (247, 4, 248), (247, 5, 249), (247, 7, 257), (247, 8, 187), (247, 9, 258), (249, 1, 250), (249, 2, 251), (249, 4, 252), (249, 5, 253), (249, 6, 254), (249, 7, 255), (249, 8, 256), (258, 0, 259), (260, 3, 261), (260, 4, 263), (260, 7, 262), (263, 0, 25), (263, 4, 264), (263, 5, 265), (263, 7, 273), (263, 8, 187), (263, 9, 274), (265, 1, 266), (265, 2, 267), (265, 4, 268), (265, 5, 269), (265, 6, 270), (265, 7, 271), (265, 8, 272), (274, 0, 275), (276, 3, 277), (276, 4, 279), (276, 7, 278), (279, 0, 25), (279, 4, 280), (279, 5, 281), (279, 7, 289), (279, 8, 187), (279, 9, 290), (281, 1, 282), (281, 2, 283), (281, 4, 284), (281, 5, 285), (281, 6, 286), (281, 7, 287), (281, 8, 288), (290, 0, 291), (292, 3, 293), (292, 4, 295), (292, 7, 294), (295, 0, 25), (295, 4, 296), (295, 5, 297), (295, 7, 305), (295, 8, 187), (295, 9, 306), (297, 1, 298), (297, 2, 299), (297, 4, 300), (297, 5, 301), (297, 6, 302), (297, 7, 303), (297, 8, 304), (306, 0, 307), (308, 3, 309), (308, 4, 311), (308, 7, 310), (311, 0, 25), (311, 4, 312), (311, 5, 313), (311, 7, 321), (311, 8, 187), (311, 9, 322), (313, 1, 314), (313, 2, 315), (313, 4, 316), (313, 5, 317), (313, 6, 318), (313, 7, 319), (313, 8, 320), (322, 0, 323), (324, 1, 325), (324, 2, 326), (324, 3, 327), (324, 4, 328), (324, 5, 329), (324, 6, 330), (331, 0, 332), (331, 3, 24), (331, 4, 340), (332, 0, 333), (332, 1, 334), (332, 3, 335), (332, 4, 336), (332, 5, 337), (332, 6, 338), (338, 0, 339), (340, 0, 25), (340, 4, 341), (340, 5, 342), (340, 7, 350), (340, 8, 332), (340, 9, 351), (342, 1, 343), (342, 2, 344), (342, 4, 345), (342, 5, 346), (342, 6, 347), (342, 7, 348), (342, 8, 349), (351, 0, 352), (353, 1, 354), (353, 12, 355), (353, 13, 356), (353, 14, 357), (353, 15, 358), (353, 16, 359), (353, 17, 360), (353, 18, 361), (353, 19, 362), (353, 20, 363), (353, 21, 364), (353, 22, 365), (353, 23, 366), (353, 24, 367), (353, 25, 368), (353, 26, 369), (353, 27, 370), (353, 29, 371), (353, 32, 372), (353, 34, 373), (353, 35, 374), (353, 36, 375), (353, 38, 376), (353, 39, 377), (353, 40, 378), (353, 41, 379), (353, 43, 380), (353, 44, 381), (353, 45, 382), (353, 46, 383), (353, 47, 384), (353, 48, 385), (353, 49, 386), (353, 50, 387), (353, 51, 388), (353, 53, 389), (353, 54, 390), (353, 56, 391), (353, 57, 392), (353, 59, 393), (353, 61, 394), (353, 62, 395), (353, 63, 396), (353, 64, 397), (353, 67, 398), (353, 68, 399), (353, 70, 400), (353, 71, 401), (353, 72, 402), (353, 73, 403), (353, 74, 404), (353, 75, 405)]
theorem K2_rf (fz : Bool) : rfK.all (fun q => decide ((K2 fz).1.2.2 q.1 q.2.1 = some q.2.2)) = true := by cases fz <;> decide +kernel
-- ints that are not 0: [(22, 4, -1), (331, 2, 1), (353, 10, -1)]
end
section
/-! ROWS OF ARRAYS ARE 0 behind the constructors: no code of theirs writes an int or a long into an array -/
def zr_i (I : Instr) : Bool := match I with
  | .iastore => false
  | .lastore => false
  | .bastore => false
  | .castore => false
  | _ => true
def zr_row (Ms : List Nat) (I : rf_I) : Bool := zr_i I.1 && (!(rf_kd I.1 == 5) || (!((I.2.headD (0, 0)).1 == 11) && I.2.tail.all (fun q => Ms.elem q.2)))
def zr_P (h : rf_H) : Prop := ∀ a, a < h.2.2.1 → ∀ q : FieldType × Nat, 1 < a → 22 ≤ a → h.2.1 a = .inr q → ∀ k, h.1.1 a k = 0 ∧ h.1.2.1 a k = 0
theorem zr_nw {h : rf_H} (hz : zr_P h) (s : rf_S) (N : Nat) : zr_P (rf_nw h s N) := by
  intro a ha q h1 h22 hs k
  have ha : a < h.2.2.1 + 1 := ha
  by_cases e : a = h.2.2.1
  · subst e
    exact ⟨by show va_up h.1.1 h.2.2.1 (fun _ => 0) h.2.2.1 k = 0; rw [va_up_self], by show va_up h.1.2.1 h.2.2.1 (fun _ => 0) h.2.2.1 k = 0; rw [va_up_self]⟩
  · have hs' : h.2.1 a = .inr q := by
      have : va_up h.2.1 h.2.2.1 s a = .inr q := hs
      unfold va_up at this
      rw [if_neg e] at this
      exact this
    obtain ⟨g1, g2⟩ := hz a (by omega) q h1 h22 hs' k
    refine ⟨?_, ?_⟩
    · show va_up h.1.1 h.2.2.1 (fun _ => 0) a k = 0
      unfold va_up
      rw [if_neg e]; exact g1
    · show va_up h.1.2.1 h.2.2.1 (fun _ => 0) a k = 0
      unfold va_up
      rw [if_neg e]; exact g2
theorem zr_wr {h : rf_H} (hz : zr_P h) {a ci k : Nat} {ty : FieldType} {v : Value} {M : rf_M} (ho : rf_ob h a = some ci) (hw : rf_wr h.1 ty a k v = some M) : zr_P (M, h.2) := by
  obtain ⟨-, w2, -⟩ := rf_wr_ok hw (fun x => x)
  have hsh : h.2.1 a = .inl ci := by
    unfold rf_ob at ho
    split at ho
    · split at ho
      · rename_i e; cases ho; exact e
      · cases ho
    · cases ho
  intro a' ha' q h1 h22 hs k'
  have hs : h.2.1 a' = .inr q := hs
  have hne : a' ≠ a := fun e => by rw [e, hsh] at hs; cases hs
  obtain ⟨g1, g2⟩ := hz a' ha' q h1 h22 hs k'
  have e1 : Value.int (M.1 a' k') = .int (h.1.1 a' k') := w2 .int a' k' (Or.inl hne)
  have e2 : Value.long (M.2.1 a' k') = .long (h.1.2.1 a' k') := w2 .long a' k' (Or.inl hne)
  injection e1 with e1
  injection e2 with e2
  exact ⟨e1.trans g1, e2.trans g2⟩
theorem zr_hp {cx : rf_C} {I : Instr} {aux : List (Int × Nat)} {st : List Value} {h : rf_H} {q : List Value × rf_H} (hi : zr_i I = true) (hz : zr_P h) (he : rf_hp cx I aux st h = some q) : zr_P q.2 := by
  unfold rf_hp at he
  split at he
  all_goals first
    | (cases hi; done)
    | skip
  · split at he
    · split at he
      · cases he; exact hz
      · cases he
    · cases he
  · split at he
    · cases he
    · split at he
      · rename_i ci ho
        split at he
        · split at he
          · rename_i M hw
            cases he
            exact zr_wr hz ho hw
          · cases he
        · cases he
      · cases he
  · split at he
    · cases he; exact hz
    · cases he
  · split at he
    · cases he; exact hz
    · cases he
  · split at he
    · cases he; exact hz
    · split at he
      · cases he; exact hz
      · cases he
  · split at he
    · cases he; exact hz
    · cases he
  · split at he
    · cases he; exact hz
    · cases he
  · split at he
    · split at he
      · cases he; exact hz
      · cases he
    · split at he
      · cases he; exact hz
      · cases he
    · cases he
  · split at he
    · cases he
    · split at he
      · split at he
        · cases he; exact hz
        · cases he
      · cases he
  · split at he
    · cases he
    · split at he
      · split at he
        · cases he; exact hz
        · cases he
      · cases he
  · split at he
    · cases he; exact hz
    · cases he
  · split at he
    · split at he
      · cases he; exact zr_nw hz _ _
      · cases he
    · cases he
  · split at he
    · cases he; exact zr_nw hz _ _
    · cases he
  · split at he
    · split at he
      · split at he
        · cases he; exact zr_nw hz _ _
        · cases he
      · cases he
    · cases he
  · cases he
theorem zr_bi {cx : rf_C} {kd : Int} {d : Nat × Nat} {st : List Value} {h : rf_H} {q : List Value × rf_H} (hk : ¬ kd = 11) (hz : zr_P h) (he : rf_bi cx kd d st h = some q) : zr_P q.2 := by
  unfold rf_bi at he
  split at he
  · split at he
    · split at he
      · cases he; exact hz
      · cases he
    · cases he
  · split at he
    · split at he
      · split at he
        · cases he; exact hz
        · cases he
      · cases he
    · split at he
      · split at he
        · split at he
          · cases he; exact hz
          · cases he
        · cases he
      · cases he
theorem zr_ca {cx : rf_C} {I : Instr} {aux : List (Int × Nat)} {st : List Value} {h : rf_H} {q : Nat × List Value × List Value} (he : rf_ca cx I aux st h = some q) : ∃ z ∈ aux.tail, z.2 = q.1 := by
  unfold rf_ca at he
  split at he
  · rename_i q0 tg
    split at he
    · split at he
      · split at he
        · rename_i j hj
          split at he
          · cases he
            unfold rf_lk at hj
            obtain ⟨z, z1, z2⟩ := Option.map_eq_some_iff.mp hj
            exact ⟨z, List.mem_of_find?_eq_some z1, z2⟩
          · cases he
        · cases he
      · cases he
    · split at he
      · split at he
        · cases he; exact ⟨_, List.mem_singleton_self _, rfl⟩
        · cases he
      · cases he
    · split at he
      · split at he
        · cases he; exact ⟨_, List.mem_singleton_self _, rfl⟩
        · cases he
      · cases he
    · cases he
  · cases he
theorem zr_ev {cx : rf_C} {Ms : List Nat} (hM : ∀ i ∈ Ms, ∀ pc I, cx.1 i pc = some I → zr_row Ms I = true) : ∀ (n : Nat) (d : Nat × Nat) (i pc : Nat) (ls : rf_L) (st : List Value) (h : rf_H) (x : Option Value × rf_H), i ∈ Ms → zr_P h → rf_ev cx n d i pc ls st h = some x → zr_P x.2 := by
  intro n
  induction n with
  | zero =>
    intro d i pc ls st h x _ _ he
    unfold rf_ev at he
    cases he
  | succ n ih =>
    intro d i pc ls st h x hi hz he
    unfold rf_ev at he
    cases hf : cx.1 i pc with
    | none => rw [hf] at he; cases he
    | some I =>
      rw [hf] at he
      dsimp only at he
      have hrow := hM i hi pc I hf
      unfold zr_row at hrow
      simp only [Bool.and_eq_true, Bool.not_eq_true', Bool.or_eq_true] at hrow
      obtain ⟨r1, r3⟩ := hrow
      cases hx : rf_ex cx d i pc I ls st h with
      | none => rw [hx] at he; cases he
      | some o =>
        rw [hx] at he
        unfold rf_ex at hx
        rcases o with q | q | v
        · have hz' : zr_P q.2.2.2 := by
            split at hx
            · obtain ⟨y, y1, y2⟩ := Option.map_eq_some_iff.mp hx; cases y2; exact hz
            · obtain ⟨y, y1, y2⟩ := Option.map_eq_some_iff.mp hx; cases y2; exact hz
            · obtain ⟨y, y1, y2⟩ := Option.map_eq_some_iff.mp hx; cases y2; exact hz
            · obtain ⟨y, y1, y2⟩ := Option.map_eq_some_iff.mp hx; cases y2; exact hz
            · obtain ⟨y, y1, y2⟩ := Option.map_eq_some_iff.mp hx; cases y2; exact zr_hp r1 hz y1
            · rename_i hk5
              split at hx
              · obtain ⟨y, y1, y2⟩ := Option.map_eq_some_iff.mp hx
                cases y2
                rcases r3 with r3 | r3
                · rw [hk5] at r3; cases r3
                · exact zr_bi (by simpa using r3.1) hz y1
              · obtain ⟨y, y1, y2⟩ := Option.map_eq_some_iff.mp hx; cases y2
            · obtain ⟨y, y1, y2⟩ := Option.map_eq_some_iff.mp hx; cases y2
            · obtain ⟨y, y1, y2⟩ := Option.map_eq_some_iff.mp hx; cases y2; exact hz
            · cases hx
          exact ih _ _ _ _ _ _ _ hi hz' he
        · have hj : q.1 ∈ Ms := by
            split at hx
            · obtain ⟨y, y1, y2⟩ := Option.map_eq_some_iff.mp hx; cases y2
            · obtain ⟨y, y1, y2⟩ := Option.map_eq_some_iff.mp hx; cases y2
            · obtain ⟨y, y1, y2⟩ := Option.map_eq_some_iff.mp hx; cases y2
            · obtain ⟨y, y1, y2⟩ := Option.map_eq_some_iff.mp hx; cases y2
            · obtain ⟨y, y1, y2⟩ := Option.map_eq_some_iff.mp hx; cases y2
            · rename_i hk5
              split at hx
              · obtain ⟨y, y1, y2⟩ := Option.map_eq_some_iff.mp hx; cases y2
              · obtain ⟨y, y1, y2⟩ := Option.map_eq_some_iff.mp hx
                cases y2
                obtain ⟨z, z1, z2⟩ := zr_ca y1
                rcases r3 with r3 | r3
                · rw [hk5] at r3; cases r3
                · rw [← z2]
                  exact List.elem_iff.mp (List.all_eq_true.mp r3.2 z z1)
            · obtain ⟨y, y1, y2⟩ := Option.map_eq_some_iff.mp hx; cases y2
            · obtain ⟨y, y1, y2⟩ := Option.map_eq_some_iff.mp hx; cases y2
            · cases hx
          dsimp only at he
          split at he
          · cases hcal : rf_ev cx n (d.1 - 1, d.2 - ((cx.2.1 q.1).2.2.1 + 19)) q.1 0 (lv_args 0 q.2.1) [] h with
            | none => rw [hcal] at he; cases he
            | some r =>
              rw [hcal] at he
              have hz' : zr_P h := hz
              exact ih _ _ _ _ _ _ _ hi (ih _ _ _ _ _ _ _ hj hz' hcal) he
          · cases he
        · cases he
          split at hx
          all_goals first
            | exact hz
            | skip
end
section
/-! arrays are 0 behind the constructors -/
def zk_Ms : List Nat := [1, 2, 3, 4, 5, 6, 7, 8, 9, 10, 11, 12, 127]
theorem zk_ml (fz : Bool) : zk_Ms.all (fun i => ((ml0 fz).getD i rf_dm).2.2.all (fun q => zr_row zk_Ms q.2.1)) = true := by cases fz <;> decide +kernel
theorem zk_cx (fz : Bool) : ∀ i ∈ zk_Ms, ∀ pc I, (cx0 fz).1 i pc = some I → zr_row zk_Ms I = true := by
  intro i hi pc I h
  have h0 : (((ml0 fz).getD i rf_dm).2.2.find? (fun q => q.1 == pc)).map (fun q => q.2.1) = some I := h
  obtain ⟨e, he, heI⟩ := Option.map_eq_some_iff.mp h0
  have h1 := List.all_eq_true.mp (zk_ml fz) i hi
  have h2 := List.all_eq_true.mp h1 e (List.mem_of_find?_eq_some he)
  rw [← heI]
  exact h2
theorem zk_0 : zr_P (rf_nw hPo (.inl 0) 10) := by
  intro a ha q h1 h22 hs k
  have ha : a < 22 + 1 := ha
  have e : a = 22 := by omega
  subst e
  have hs : va_up hPo.2.1 22 (.inl 0) 22 = .inr q := hs
  rw [va_up_self] at hs
  cases hs
theorem zk_1 (fz : Bool) : zr_P (K1 fz) := by
  have h1 : (1 : Nat) ∈ zk_Ms := by decide
  have h := K1_eq fz
  unfold K1r at h
  generalize K1 fz = k at h ⊢
  exact zr_ev (zk_cx fz) _ _ _ _ _ _ _ (none, k) h1 zk_0 h
theorem zk_2 (fz : Bool) : zr_P (K2 fz) := by
  have h1 : (127 : Nat) ∈ zk_Ms := by decide
  have h := K2_eq fz
  unfold K2r at h
  have hz := zr_nw (zk_1 fz) (.inl 11) 76
  generalize K2 fz = k at h ⊢
  generalize K1 fz = k1 at h hz
  exact zr_ev (zk_cx fz) _ _ _ _ _ _ _ (none, k) h1 hz h
end
