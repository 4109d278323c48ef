/-! THE REFLECTION: a small evaluator of bytecode over an abstract heap; the machine does what the evaluator does. Abstract cells are numbers; ad tells their addresses: those below a0 lie there before the law begins and are only read (0 is a thing that nobody looks into); the others are made in order. -/
abbrev rf_M : Type := (Nat → Nat → Int32) × (Nat → Nat → Int64) × (Nat → Nat → Option Nat)
abbrev rf_S : Type := Nat ⊕ (FieldType × Nat)
abbrev rf_H : Type := rf_M × (Nat → rf_S) × Nat × Nat
abbrev rf_L : Type := List (Nat × Value)
abbrev rf_I : Type := Instr × List (Int × Nat)
abbrev rf_N : Type := Nat × rf_L × List Value × rf_H
abbrev rf_O : Type := rf_N ⊕ ((Nat × List Value × List Value) ⊕ Option Value)
abbrev rf_Mt : Type := MethodName × ByteArray × Nat × Option FieldType
/-- the program: what stands at a place; the methods; the types of fields (by the key of a class); the classes; the number of old cells -/
abbrev rf_C : Type := (Nat → Nat → Option rf_I) × (Nat → rf_Mt) × (Int → Nat → FieldType) × List vw_C × Nat
def rf_cv (ad : Nat → Nat) : Value → Value
  | .ref a => .ref (ad a)
  | v => v
theorem rf_cat (ad : Nat → Nat) (v : Value) : (rf_cv ad v).category = v.category := by cases v <;> rfl
theorem rf_cvrf (ad : Nat → Nat) (r : Option Nat) : rf_cv ad (va_rf r) = va_rf (r.map ad) := by cases r <;> rfl
theorem rf_cats (ad : Nat → Nat) (st : List Value) : ((st.map (rf_cv ad)).map fun v => v.category).sum = (st.map fun v => v.category).sum := by
  rw [List.map_map]
  congr 1
  exact List.map_congr_left (fun v _ => rf_cat ad v)
/-- slot k of cell a, by its type -/
def rf_rd (M : rf_M) (ty : FieldType) (a k : Nat) : Value := match ty with
  | .long => .long (M.2.1 a k)
  | .object _ => va_rf (M.2.2 a k)
  | .array _ => va_rf (M.2.2 a k)
  | .float => .null
  | .double => .null
  | _ => .int (M.1 a k)
def rf_wi (M : rf_M) (a k : Nat) (x : Int32) : rf_M := (va_up M.1 a (va_up (M.1 a) k x), M.2.1, M.2.2)
def rf_wl (M : rf_M) (a k : Nat) (x : Int64) : rf_M := (M.1, va_up M.2.1 a (va_up (M.2.1 a) k x), M.2.2)
def rf_wq (M : rf_M) (a k : Nat) (x : Option Nat) : rf_M := (M.1, M.2.1, va_up M.2.2 a (va_up (M.2.2 a) k x))
def rf_wr (M : rf_M) (ty : FieldType) (a k : Nat) (v : Value) : Option rf_M := match ty, v with
  | .int, .int x => some (rf_wi M a k x)
  | .long, .long x => some (rf_wl M a k x)
  | .object _, .ref x => some (rf_wq M a k (some x))
  | .object _, .null => some (rf_wq M a k none)
  | .array _, .ref x => some (rf_wq M a k (some x))
  | .array _, .null => some (rf_wq M a k none)
  | .boolean, .int x => if narrow .boolean (.int x) = .int x ∧ fits .boolean (.int x) = true then some (rf_wi M a k x) else none
  | .byte, .int x => if narrow .byte (.int x) = .int x ∧ fits .byte (.int x) = true then some (rf_wi M a k x) else none
  | .char, .int x => if narrow .char (.int x) = .int x ∧ fits .char (.int x) = true then some (rf_wi M a k x) else none
  | .short, .int x => if narrow .short (.int x) = .int x ∧ fits .short (.int x) = true then some (rf_wi M a k x) else none
  | _, _ => none
theorem rf_up2 {α : Type} (f : Nat → Nat → α) {a k a' k' : Nat} (x : α) (h : a' ≠ a ∨ k' ≠ k) : va_up f a (va_up (f a) k x) a' k' = f a' k' := by
  unfold va_up
  by_cases ha : a' = a
  · subst ha
    have hk : k' ≠ k := h.resolve_left (fun q => q rfl)
    simp [hk]
  · simp [ha]
theorem rf_up2s {α : Type} (f : Nat → Nat → α) (a k : Nat) (x : α) : va_up f a (va_up (f a) k x) a k = x := by simp [va_up]
theorem rf_wi_ne (M : rf_M) {a k a' k' : Nat} (x : Int32) (h : a' ≠ a ∨ k' ≠ k) (ty : FieldType) : rf_rd (rf_wi M a k x) ty a' k' = rf_rd M ty a' k' := by
  cases ty <;> first | rfl | exact congrArg Value.int (rf_up2 M.1 x h)
theorem rf_wl_ne (M : rf_M) {a k a' k' : Nat} (x : Int64) (h : a' ≠ a ∨ k' ≠ k) (ty : FieldType) : rf_rd (rf_wl M a k x) ty a' k' = rf_rd M ty a' k' := by
  cases ty <;> first | rfl | exact congrArg Value.long (rf_up2 M.2.1 x h)
theorem rf_wq_ne (M : rf_M) {a k a' k' : Nat} (x : Option Nat) (h : a' ≠ a ∨ k' ≠ k) (ty : FieldType) : rf_rd (rf_wq M a k x) ty a' k' = rf_rd M ty a' k' := by
  cases ty <;> first | rfl | exact congrArg va_rf (rf_up2 M.2.2 x h)
/-- a writing: the slot has the value, all other slots are as before, the value fits -/
theorem rf_wr_ok {M M' : rf_M} {ty : FieldType} {a k : Nat} {v : Value} (h : rf_wr M ty a k v = some M') (ad : Nat → Nat) : rf_rd M' ty a k = v ∧ (∀ (ty' : FieldType) (a' k' : Nat), (a' ≠ a ∨ k' ≠ k) → rf_rd M' ty' a' k' = rf_rd M ty' a' k') ∧ narrow ty (rf_cv ad v) = rf_cv ad v ∧ fits ty (rf_cv ad v) = true := by
  unfold rf_wr at h
  split at h
  · cases h; exact ⟨congrArg Value.int (rf_up2s _ _ _ _), fun ty' a' k' q => rf_wi_ne M _ q ty', rfl, rfl⟩
  · cases h; exact ⟨congrArg Value.long (rf_up2s _ _ _ _), fun ty' a' k' q => rf_wl_ne M _ q ty', rfl, rfl⟩
  · cases h; exact ⟨congrArg va_rf (rf_up2s _ _ _ _), fun ty' a' k' q => rf_wq_ne M _ q ty', rfl, rfl⟩
  · cases h; exact ⟨congrArg va_rf (rf_up2s _ _ _ _), fun ty' a' k' q => rf_wq_ne M _ q ty', rfl, rfl⟩
  · cases h; exact ⟨congrArg va_rf (rf_up2s _ _ _ _), fun ty' a' k' q => rf_wq_ne M _ q ty', rfl, rfl⟩
  · cases h; exact ⟨congrArg va_rf (rf_up2s _ _ _ _), fun ty' a' k' q => rf_wq_ne M _ q ty', rfl, rfl⟩
  · split at h
    · rename_i hc
      cases h; exact ⟨congrArg Value.int (rf_up2s _ _ _ _), fun ty' a' k' q => rf_wi_ne M _ q ty', hc.1, hc.2⟩
    · cases h
  · split at h
    · rename_i hc
      cases h; exact ⟨congrArg Value.int (rf_up2s _ _ _ _), fun ty' a' k' q => rf_wi_ne M _ q ty', hc.1, hc.2⟩
    · cases h
  · split at h
    · rename_i hc
      cases h; exact ⟨congrArg Value.int (rf_up2s _ _ _ _), fun ty' a' k' q => rf_wi_ne M _ q ty', hc.1, hc.2⟩
    · cases h
  · split at h
    · rename_i hc
      cases h; exact ⟨congrArg Value.int (rf_up2s _ _ _ _), fun ty' a' k' q => rf_wi_ne M _ q ty', hc.1, hc.2⟩
    · cases h
  · cases h
/-- a new cell -/
def rf_nw (h : rf_H) (sh : rf_S) (N : Nat) : rf_H := ((va_up h.1.1 h.2.2.1 (fun _ => 0), va_up h.1.2.1 h.2.2.1 (fun _ => 0), va_up h.1.2.2 h.2.2.1 (fun _ => none)), va_up h.2.1 h.2.2.1 sh, h.2.2.1 + 1, h.2.2.2 + N)
def rf_lk (aux : List (Int × Nat)) (z : Int) : Option Nat := (aux.find? (fun q => q.1 == z)).map (fun q => q.2)
def rf_ky (a0 a ci : Nat) : Int := if a < a0 then -(ci : Int) - 1 else (ci : Int)
/-- the class of an object -/
def rf_ob (h : rf_H) (a : Nat) : Option Nat := if 0 < a ∧ a < h.2.2.1 then (match h.2.1 a with | .inl ci => some ci | .inr _ => none) else none
/-- the type and length of an array -/
def rf_aa (h : rf_H) (a : Nat) : Option (FieldType × Nat) := if 0 < a ∧ a < h.2.2.1 then (match h.2.1 a with | .inr q => some q | .inl _ => none) else none
def rf_cc (x y : Int32) : Jvm.ClassFile.Cond → Bool
  | .eq => decide (x = y)
  | .ne => !decide (x = y)
  | .lt => decide (x < y)
  | .ge => decide (y ≤ x)
  | .gt => decide (y < x)
  | .le => decide (x ≤ y)
/-- arithmetic: instructions of one byte on the stack alone -/
def rf_ar (I : Instr) (st : List Value) : Option (List Value) := match I, st with
  | .iadd, .int y :: .int x :: r => some (.int (x + y) :: r)
  | .isub, .int y :: .int x :: r => some (.int (x - y) :: r)
  | .imul, .int y :: .int x :: r => some (.int (x * y) :: r)
  | .iand, .int y :: .int x :: r => some (.int (x &&& y) :: r)
  | .ior, .int y :: .int x :: r => some (.int (x ||| y) :: r)
  | .ixor, .int y :: .int x :: r => some (.int (x ^^^ y) :: r)
  | .idiv, .int y :: .int x :: r => if y = 0 then none else some (.int (x / y) :: r)
  | .irem, .int y :: .int x :: r => if y = 0 then none else some (.int (x - x / y * y) :: r)
  | .ineg, .int x :: r => some (.int (-x) :: r)
  | .ishl, .int y :: .int x :: r => some (.int (x <<< (y &&& 31)) :: r)
  | .ishr, .int y :: .int x :: r => some (.int (x >>> (y &&& 31)) :: r)
  | .iushr, .int y :: .int x :: r => some (.int (x.toUInt32 >>> (y.toUInt32 &&& Int32.toUInt32 31)).toInt32 :: r)
  | .ladd, .long y :: .long x :: r => some (.long (x + y) :: r)
  | .lsub, .long y :: .long x :: r => some (.long (x - y) :: r)
  | .lmul, .long y :: .long x :: r => some (.long (x * y) :: r)
  | .land, .long y :: .long x :: r => some (.long (x &&& y) :: r)
  | .lor, .long y :: .long x :: r => some (.long (x ||| y) :: r)
  | .lxor, .long y :: .long x :: r => some (.long (x ^^^ y) :: r)
  | .ldiv, .long y :: .long x :: r => if y = 0 then none else some (.long (x / y) :: r)
  | .lrem, .long y :: .long x :: r => if y = 0 then none else some (.long (x - x / y * y) :: r)
  | .lneg, .long x :: r => some (.long (-x) :: r)
  | .lshl, .int y :: .long x :: r => some (.long (x <<< (y.toInt64 &&& 63)) :: r)
  | .lshr, .int y :: .long x :: r => some (.long (x >>> (y.toInt64 &&& 63)) :: r)
  | .lushr, .int y :: .long x :: r => some (.long (x.toUInt64 >>> (y.toInt64.toUInt64 &&& Int64.toUInt64 63)).toInt64 :: r)
  | .lcmp, .long y :: .long x :: r => some (.int (lg_cmp x y) :: r)
  | .i2l, .int x :: r => some (.long x.toInt64 :: r)
  | .l2i, .long x :: r => some (.int x.toInt32 :: r)
  | .i2b, .int x :: r => some (.int x.toInt8.toInt32 :: r)
  | .i2s, .int x :: r => some (.int x.toInt16.toInt32 :: r)
  | .i2c, .int x :: r => some (.int (x.toUInt32 % 65536).toInt32 :: r)
  | .dup, v :: r => if v.category = 1 then some (v :: v :: r) else none
  | .pop, v :: r => if v.category = 1 then some r else none
  | .pop2, v :: r => if v.category = 2 then some r else none
  | .dup_x1, v :: w :: r => if v.category = 1 ∧ w.category = 1 then some (v :: w :: v :: r) else none
  | .dup_x2, v :: w :: u :: r => if v.category = 1 ∧ w.category = 1 ∧ u.category = 1 then some (v :: w :: u :: v :: r) else none
  | .dup2, v :: w :: r => if v.category = 1 ∧ w.category = 1 then some (v :: w :: v :: w :: r) else if v.category = 2 then some (v :: v :: w :: r) else none
  | .aconst_null, r => some (.null :: r)
  | _, _ => none
def rf_s1 (ls : rf_L) (i : Nat) (v : Value) : rf_L := (i, v) :: ls.filter (fun q => !(q.1 == i) && !(q.1 + 1 == i && q.2.category == 2))
def rf_s2 (ls : rf_L) (i : Nat) (v : Value) : rf_L := (i, v) :: ls.filter (fun q => !(q.1 == i) && (!(q.1 == i + 1) && !(q.1 + 1 == i && q.2.category == 2)))
def rf_ld (ls : rf_L) (i : Nat) : Option Value := (ls.find? (fun q => q.1 == i)).map (fun q => q.2)
def rf_li (ls : rf_L) (i : Nat) (st : List Value) : Option (List Value) := match rf_ld ls i with
  | some (.int x) => some (.int x :: st)
  | _ => none
def rf_ll (ls : rf_L) (i : Nat) (st : List Value) : Option (List Value) := match rf_ld ls i with
  | some (.long x) => some (.long x :: st)
  | _ => none
def rf_la (ls : rf_L) (i : Nat) (st : List Value) : Option (List Value) := match rf_ld ls i with
  | some (.ref x) => some (.ref x :: st)
  | some .null => some (.null :: st)
  | _ => none
/-- constants, loads -/
def rf_lo (I : Instr) (aux : List (Int × Nat)) (ls : rf_L) (st : List Value) : Option (List Value) := match I with
  | .iconst n => some (.int (Int32.ofInt n) :: st)
  | .bipush n => some (.int (Int8.ofInt n).toInt32 :: st)
  | .sipush n => some (.int (Int16.ofInt n).toInt32 :: st)
  | .lconst n => some (.long (Int64.ofNat (n : Nat)) :: st)
  | .iload_n k => rf_li ls (k : Nat) st
  | .iload k => rf_li ls k st
  | .lload_n k => rf_ll ls (k : Nat) st
  | .lload k => rf_ll ls k st
  | .aload_n k => rf_la ls (k : Nat) st
  | .aload k => rf_la ls k st
  | _ => none
/-- stores, iinc -/
def rf_so (I : Instr) (nL : Nat) (ls : rf_L) (st : List Value) : Option (rf_L × List Value) := match I, st with
  | .istore_n k, .int x :: r => if (k : Nat) < nL then some (rf_s1 ls (k : Nat) (.int x), r) else none
  | .istore k, .int x :: r => if k < nL then some (rf_s1 ls k (.int x), r) else none
  | .lstore_n k, .long x :: r => if (k : Nat) + 1 < nL then some (rf_s2 ls (k : Nat) (.long x), r) else none
  | .lstore k, .long x :: r => if k + 1 < nL then some (rf_s2 ls k (.long x), r) else none
  | .astore_n k, .ref x :: r => if (k : Nat) < nL then some (rf_s1 ls (k : Nat) (.ref x), r) else none
  | .astore k, .ref x :: r => if k < nL then some (rf_s1 ls k (.ref x), r) else none
  | .astore_n k, .null :: r => if (k : Nat) < nL then some (rf_s1 ls (k : Nat) .null, r) else none
  | .astore k, .null :: r => if k < nL then some (rf_s1 ls k .null, r) else none
  | .iinc k n, r => match rf_ld ls k with
    | some (.int x) => if k < nL then some (rf_s1 ls k (.int (x + Int32.ofInt n)), r) else none
    | _ => none
  | _, _ => none
def rf_sw : List (Int × Nat) → Nat → Int → Nat
  | [], d, _ => d
  | q :: r, d, x => if q.1 = x then q.2 else rf_sw r d x
def rf_tg (aux : List (Int × Nat)) : Nat := (aux.headD (0, 0)).2
/-- branches: the next place, and the stack -/
def rf_br (a0 : Nat) (I : Instr) (aux : List (Int × Nat)) (pc : Nat) (st : List Value) : Option (Nat × List Value) := match I, st with
  | .goto _, r => some (rf_tg aux, r)
  | .ifCond c _, .int x :: r => some (if rf_cc x 0 c = true then rf_tg aux else pc + 3, r)
  | .if_icmp c _, .int y :: .int x :: r => some (if rf_cc x y c = true then rf_tg aux else pc + 3, r)
  | .ifnull _, .ref _ :: r => some (pc + 3, r)
  | .ifnull _, .null :: r => some (rf_tg aux, r)
  | .ifnonnull _, .ref _ :: r => some (rf_tg aux, r)
  | .ifnonnull _, .null :: r => some (pc + 3, r)
  | .if_acmp .eq _, .ref y :: .ref x :: r => if x < a0 ∨ y < a0 then none else some (if x = y then rf_tg aux else pc + 3, r)
  | .if_acmp .ne _, .ref y :: .ref x :: r => if x < a0 ∨ y < a0 then none else some (if x = y then pc + 3 else rf_tg aux, r)
  | .if_acmp .eq _, .null :: .null :: r => some (rf_tg aux, r)
  | .if_acmp .eq _, .null :: .ref _ :: r => some (pc + 3, r)
  | .if_acmp .eq _, .ref _ :: .null :: r => some (pc + 3, r)
  | .if_acmp .ne _, .null :: .null :: r => some (pc + 3, r)
  | .if_acmp .ne _, .null :: .ref _ :: r => some (rf_tg aux, r)
  | .if_acmp .ne _, .ref _ :: .null :: r => some (rf_tg aux, r)
  | .tableswitch _ lo hi _, .int x :: r => if x.toInt < lo ∨ hi < x.toInt then some (rf_tg aux, r) else (match aux[(x.toInt - lo).toNat + 1]? with | some q => some (q.2, r) | none => none)
  | .lookupswitch _ _, .int x :: r => some (rf_sw aux.tail (rf_tg aux) x.toInt, r)
  | _, _ => none
/-- the answer -/
def rf_rt (I : Instr) (ret : Option FieldType) (st : List Value) : Option (Option Value) := match I, ret, st with
  | .ireturn, some .int, [.int v] => some (some (.int v))
  | .ireturn, some .boolean, [.int v] => if narrow .boolean (.int v) = .int v then some (some (.int v)) else none
  | .ireturn, some .byte, [.int v] => if narrow .byte (.int v) = .int v then some (some (.int v)) else none
  | .ireturn, some .char, [.int v] => if narrow .char (.int v) = .int v then some (some (.int v)) else none
  | .ireturn, some .short, [.int v] => if narrow .short (.int v) = .int v then some (some (.int v)) else none
  | .lreturn, some .long, [.long v] => some (some (.long v))
  | .areturn, some (.object _), [.ref v] => some (some (.ref v))
  | .areturn, some (.object _), [.null] => some (some .null)
  | .areturn, some (.array _), [.ref v] => some (some (.ref v))
  | .areturn, some (.array _), [.null] => some (some .null)
  | .return_, none, [] => some none
  | _, _, _ => none
/-- an array's element -/
def rf_el (h : rf_H) (ty : FieldType) (a : Nat) (j : Int32) : Option Value := match rf_aa h a with
  | some q => if q.1 = ty ∧ ¬ (j < 0 ∨ q.2 ≤ j.toNatClampNeg) then some (rf_rd h.1 ty a j.toNatClampNeg) else none
  | none => none
/-- heap instructions: the stack and the heap behind them -/
def rf_hp (cx : rf_C) (I : Instr) (aux : List (Int × Nat)) (st : List Value) (h : rf_H) : Option (List Value × rf_H) := match I, st with
  | .getfield _, .ref a :: r => match rf_ob h a with
    | some ci => match rf_lk aux (rf_ky cx.2.2.2.2 a ci) with
      | some k => some (rf_rd h.1 (cx.2.2.1 (rf_ky cx.2.2.2.2 a ci) k) a k :: r, h)
      | none => none
    | none => none
  | .putfield _, v :: .ref a :: r => if a < cx.2.2.2.2 then none else match rf_ob h a with
    | some ci => match rf_lk aux (ci : Int) with
      | some k => match rf_wr h.1 (cx.2.2.1 (ci : Int) k) a k v with
        | some M => some (r, (M, h.2))
        | none => none
      | none => none
    | none => none
  | .iaload, .int j :: .ref a :: r => match rf_el h .int a j with
    | some v => some (v :: r, h)
    | none => none
  | .laload, .int j :: .ref a :: r => match rf_el h .long a j with
    | some v => some (v :: r, h)
    | none => none
  | .baload, .int j :: .ref a :: r => match rf_el h .byte a j with
    | some v => some (v :: r, h)
    | none => match rf_el h .boolean a j with
      | some v => some (v :: r, h)
      | none => none
  | .caload, .int j :: .ref a :: r => match rf_el h .char a j with
    | some v => some (v :: r, h)
    | none => none
  | .saload, .int j :: .ref a :: r => match rf_el h .short a j with
    | some v => some (v :: r, h)
    | none => none
  | .aaload, .int j :: .ref a :: r => match rf_aa h a with
    | some (.object C, n) => match rf_el h (.object C) a j with
      | some v => some (v :: r, h)
      | none => none
    | some (.array t, n) => match rf_el h (.array t) a j with
      | some v => some (v :: r, h)
      | none => none
    | _ => none
  | .iastore, .int x :: .int j :: .ref a :: r => if a < cx.2.2.2.2 then none else match rf_el h .int a j with
    | some _ => some (r, (rf_wi h.1 a j.toNatClampNeg x, h.2))
    | none => none
  | .lastore, .long x :: .int j :: .ref a :: r => if a < cx.2.2.2.2 then none else match rf_el h .long a j with
    | some _ => some (r, (rf_wl h.1 a j.toNatClampNeg x, h.2))
    | none => none
  | .bastore, .int x :: .int j :: .ref a :: r => if a < cx.2.2.2.2 then none else match rf_el h .byte a j with
    | some _ => some (r, (rf_wi h.1 a j.toNatClampNeg x.toInt8.toInt32, h.2))
    | none => match rf_el h .boolean a j with
      | some _ => some (r, (rf_wi h.1 a j.toNatClampNeg (x &&& 1), h.2))
      | none => none
  | .castore, .int x :: .int j :: .ref a :: r => if a < cx.2.2.2.2 then none else match rf_el h .char a j with
    | some _ => some (r, (rf_wi h.1 a j.toNatClampNeg x.toUInt32.toUInt16.toUInt32.toInt32, h.2))
    | none => none
  | .aastore, .ref v :: .int j :: .ref a :: r => if a < cx.2.2.2.2 ∨ v < cx.2.2.2.2 then none else match rf_aa h a, rf_ob h v with
    | some (.object C, n), some ci => if (cx.2.2.2.1[ci]?).map (fun q => q.1) = some C ∧ ¬ (j < 0 ∨ n ≤ j.toNatClampNeg) then some (r, (rf_wq h.1 a j.toNatClampNeg (some v), h.2)) else none
    | _, _ => none
  | .aastore, .null :: .int j :: .ref a :: r => if a < cx.2.2.2.2 then none else match rf_aa h a with
    | some (.object C, n) => if ¬ (j < 0 ∨ n ≤ j.toNatClampNeg) then some (r, (rf_wq h.1 a j.toNatClampNeg none, h.2)) else none
    | _ => none
  | .arraylength, .ref a :: r => match rf_aa h a with
    | some q => some (.int (nI q.2) :: r, h)
    | none => none
  | .new _, r => match aux with
    | [(_, ci)] => match cx.2.2.2.1[ci]? with
      | some q => some (.ref h.2.2.1 :: r, rf_nw h (.inl ci) q.2.2)
      | none => none
    | _ => none
  | .newarray t, .int n :: r => if ¬ n < 0 ∧ n.toNatClampNeg * componentBytes (newarray.typeOf t) ≤ 536870912 ∧ (newarray.typeOf t ≠ .float ∧ newarray.typeOf t ≠ .double) then some (.ref h.2.2.1 :: r, rf_nw h (.inr (newarray.typeOf t, n.toNatClampNeg)) n.toNatClampNeg) else none
  | .anewarray _, .int n :: r => match aux with
    | [(_, ci)] => match cx.2.2.2.1[ci]? with
      | some q => if ¬ n < 0 ∧ n.toNatClampNeg * 4 ≤ 536870912 then some (.ref h.2.2.1 :: r, rf_nw h (.inr (.object q.1, n.toNatClampNeg)) n.toNatClampNeg) else none
      | none => none
    | _ => none
  | _, _ => none
/-- calls of the JDK that the kit has rows for: Object(), arraycopy of ints and longs, Math.min and Math.max of ints; by their kind -/
def rf_ok8 (r : List Value) (d : Nat × Nat) (w : Nat) : Bool := decide (1 ≤ d.1) && decide ((r.map fun v => v.category).sum + w ≤ d.2)
def rf_bi (cx : rf_C) (kd : Int) (d : Nat × Nat) (st : List Value) (h : rf_H) : Option (List Value × rf_H) :=
  if kd = 10 then (match st with
    | .ref _ :: r => if rf_ok8 r d 12 = true then some (r, h) else none
    | _ => none)
  else if kd = 11 then (match st with
    | .int n :: .int dp :: .ref a1 :: .int sp :: .ref a2 :: r => if rf_ok8 r d 18 = true ∧ ¬ a1 < cx.2.2.2.2 ∧ ¬ a2 < cx.2.2.2.2 ∧ ¬ sp < 0 ∧ ¬ dp < 0 ∧ ¬ n < 0 then (match rf_aa h a1, rf_aa h a2 with
      | some (.int, n1), some (.int, n2) => if sp.toNatClampNeg + n.toNatClampNeg ≤ n2 ∧ dp.toNatClampNeg + n.toNatClampNeg ≤ n1 then some (r, ((va_up h.1.1 a1 (va_cpy (h.1.1 a2) (h.1.1 a1) sp.toNatClampNeg dp.toNatClampNeg n.toNatClampNeg), h.1.2.1, h.1.2.2), h.2)) else none
      | some (.long, n1), some (.long, n2) => if sp.toNatClampNeg + n.toNatClampNeg ≤ n2 ∧ dp.toNatClampNeg + n.toNatClampNeg ≤ n1 then some (r, ((h.1.1, va_up h.1.2.1 a1 (va_cpy (h.1.2.1 a2) (h.1.2.1 a1) sp.toNatClampNeg dp.toNatClampNeg n.toNatClampNeg), h.1.2.2), h.2)) else none
      | _, _ => none) else none
    | _ => none)
  else if kd = 12 then (match st with
    | .int y :: .int x :: r => if rf_ok8 r d 13 = true then some (.int (if y < x then y else x) :: r, h) else none
    | _ => none)
  else if kd = 13 then (match st with
    | .int y :: .int x :: r => if rf_ok8 r d 13 = true then some (.int (if x < y then y else x) :: r, h) else none
    | _ => none)
  else none
/-- calls: the callee, its arguments, what lies below them. aux: (kind, number of parameters), then (key of the receiver's class, callee) -/
def rf_ca (cx : rf_C) (I : Instr) (aux : List (Int × Nat)) (st : List Value) (h : rf_H) : Option (Nat × List Value × List Value) := match aux with
  | q :: tg => (match I, st.drop q.2 with
    | .invokevirtual _, .ref a :: r => (match rf_ob h a with
      | some ci => (match rf_lk tg (rf_ky cx.2.2.2.2 a ci) with
        | some j => if q.2 ≤ st.length ∧ (r.map fun v => v.category).sum ≤ 8 then some (j, .ref a :: (st.take q.2).reverse, r) else none
        | none => none)
      | none => none)
    | .invokespecial _, .ref a :: r => (match tg with
      | [(_, j)] => if q.2 ≤ st.length ∧ (r.map fun v => v.category).sum ≤ 8 then some (j, .ref a :: (st.take q.2).reverse, r) else none
      | _ => none)
    | .invokestatic _, r => (match tg with
      | [(_, j)] => if q.2 ≤ st.length ∧ (r.map fun v => v.category).sum ≤ 8 then some (j, (st.take q.2).reverse, r) else none
      | _ => none)
    | _, _ => none)
  | [] => none
def rf_len : Instr → Nat
  | .bipush _ => 2
  | .iload _ => 2
  | .lload _ => 2
  | .aload _ => 2
  | .istore _ => 2
  | .lstore _ => 2
  | .astore _ => 2
  | .newarray _ => 2
  | .ldc _ => 2
  | .sipush _ => 3
  | .iinc _ _ => 3
  | .goto _ => 3
  | .ifCond _ _ => 3
  | .if_icmp _ _ => 3
  | .if_acmp _ _ => 3
  | .ifnull _ => 3
  | .ifnonnull _ => 3
  | .getfield _ => 3
  | .putfield _ => 3
  | .getstatic _ => 3
  | .new _ => 3
  | .anewarray _ => 3
  | .ldc2_w _ => 3
  | .invokevirtual _ => 3
  | .invokespecial _ => 3
  | .invokestatic _ => 3
  | _ => 1
/-- what kind of instruction: 0 arithmetic, 1 loads, 2 stores, 3 branches, 4 heap, 5 calls, 6 answers, 7 constants of the pool -/
def rf_kd : Instr → Nat
  | .iconst _ => 1
  | .bipush _ => 1
  | .sipush _ => 1
  | .lconst _ => 1
  | .iload_n _ => 1
  | .iload _ => 1
  | .lload_n _ => 1
  | .lload _ => 1
  | .aload_n _ => 1
  | .aload _ => 1
  | .istore_n _ => 2
  | .istore _ => 2
  | .lstore_n _ => 2
  | .lstore _ => 2
  | .astore_n _ => 2
  | .astore _ => 2
  | .iinc _ _ => 2
  | .goto _ => 3
  | .ifCond _ _ => 3
  | .if_icmp _ _ => 3
  | .if_acmp _ _ => 3
  | .ifnull _ => 3
  | .ifnonnull _ => 3
  | .tableswitch _ _ _ _ => 3
  | .lookupswitch _ _ => 3
  | .getfield _ => 4
  | .putfield _ => 4
  | .iaload => 4
  | .laload => 4
  | .baload => 4
  | .caload => 4
  | .saload => 4
  | .aaload => 4
  | .iastore => 4
  | .lastore => 4
  | .bastore => 4
  | .castore => 4
  | .aastore => 4
  | .arraylength => 4
  | .new _ => 4
  | .newarray _ => 4
  | .anewarray _ => 4
  | .invokevirtual _ => 5
  | .invokespecial _ => 5
  | .invokestatic _ => 5
  | .ireturn => 6
  | .lreturn => 6
  | .areturn => 6
  | .return_ => 6
  | .ldc _ => 7
  | .ldc2_w _ => 7
  | .getstatic _ => 7
  | _ => 0
/-- constants of the pool: aux tells the value; (0, k): int k; (1, k): long k; (2, a): the cell a; a first part of minus one: negative -/
def rf_po (aux : List (Int × Nat)) (st : List Value) : Option (List Value) := match aux with
  | [(0, k)] => some (.int (Int32.ofNat k) :: st)
  | [(1, k)] => some (.long (Int64.ofNat k) :: st)
  | [(2, a)] => some (.ref a :: st)
  | [(3, _)] => some (.null :: st)
  | _ => none
def rf_ex (cx : rf_C) (d : Nat × Nat) (i pc : Nat) (I : rf_I) (ls : rf_L) (st : List Value) (h : rf_H) : Option rf_O := match rf_kd I.1 with
  | 0 => (rf_ar I.1 st).map (fun q => .inl (pc + 1, ls, q, h))
  | 1 => (rf_lo I.1 I.2 ls st).map (fun q => .inl (pc + rf_len I.1, ls, q, h))
  | 2 => (rf_so I.1 (cx.2.1 i).2.2.1 ls st).map (fun q => .inl (pc + rf_len I.1, q.1, q.2, h))
  | 3 => (rf_br cx.2.2.2.2 I.1 I.2 pc st).map (fun q => .inl (q.1, ls, q.2, h))
  | 4 => (rf_hp cx I.1 I.2 st h).map (fun q => .inl (pc + rf_len I.1, ls, q.1, q.2))
  | 5 => if 10 ≤ (I.2.headD (0, 0)).1 then (rf_bi cx (I.2.headD (0, 0)).1 d st h).map (fun q => .inl (pc + 3, ls, q.1, q.2)) else (rf_ca cx I.1 I.2 st h).map (fun q => .inr (.inl q))
  | 6 => (rf_rt I.1 (cx.2.1 i).2.2.2 st).map (fun v => .inr (.inr v))
  | 7 => (rf_po I.2 st).map (fun q => .inl (pc + rf_len I.1, ls, q, h))
  | _ => none
/-- the evaluator: fuel, room (frames, locals), method, place, locals, stack, heap -/
def rf_ev (cx : rf_C) : Nat → Nat × Nat → Nat → Nat → rf_L → List Value → rf_H → Option (Option Value × rf_H)
  | 0, _, _, _, _, _, _ => none
  | n + 1, d, i, pc, ls, st, h => match cx.1 i pc with
    | none => none
    | some I => match rf_ex cx d i pc I ls st h with
      | none => none
      | some (.inl q) => rf_ev cx n d i q.1 q.2.1 q.2.2.1 q.2.2.2
      | some (.inr (.inl q)) => if 1 ≤ d.1 ∧ (cx.2.1 q.1).2.2.1 + 19 ≤ d.2 ∧ (lg_sl q.2.1).length ≤ (cx.2.1 q.1).2.2.1 then (match rf_ev cx n (d.1 - 1, d.2 - ((cx.2.1 q.1).2.2.1 + 19)) q.1 0 (lv_args 0 q.2.1) [] h with
        | none => none
        | some r => rf_ev cx n d i (pc + 3) ls (r.1.toList ++ q.2.2) r.2) else none
      | some (.inr (.inr v)) => some (v, h)
/-! THE REFLECTION IS TRUE: instructions without the heap -/
theorem rf_ld_ok {ad : Nat → Nat} {lsA : rf_L} {lsM : Array Slot} {nL i : Nat} {v : Value} (h : rf_ld lsA i = some v) (hl : lv_has lsM nL (lsA.map (fun q => (q.1, rf_cv ad q.2)))) : lsM[i]? = some (.val (rf_cv ad v)) := by
  unfold rf_ld at h
  cases hf : lsA.find? (fun q => q.1 == i) with
  | none => rw [hf] at h; cases h
  | some q =>
    rw [hf] at h
    have hv : q.2 = v := Option.some.inj h
    have hm := List.mem_of_find?_eq_some hf
    have hi : q.1 = i := by simpa using List.find?_some hf
    rw [← hi, ← hv]
    exact hl.2.2 (q.1, rf_cv ad q.2) (List.mem_map.mpr ⟨q, hm, rfl⟩)
theorem rf_ld_ix {ad : Nat → Nat} {lsA : rf_L} {i : Nat} {v : Value} (h : rf_ld lsA i = some v) : ∃ j : Nat, (lsA.map (fun q => (q.1, rf_cv ad q.2)))[j]? = some (i, rf_cv ad v) := by
  unfold rf_ld at h
  cases hf : lsA.find? (fun q => q.1 == i) with
  | none => rw [hf] at h; cases h
  | some q =>
    rw [hf] at h
    have hv : q.2 = v := Option.some.inj h
    have hm := List.mem_of_find?_eq_some hf
    have hi : q.1 = i := by simpa using List.find?_some hf
    apply List.getElem?_of_mem
    refine List.mem_map.mpr ⟨q, hm, ?_⟩
    rw [hv, hi]
theorem rf_s1_map (ad : Nat → Nat) (ls : rf_L) (i : Nat) (v : Value) : (i, rf_cv ad v) :: (ls.map (fun q => (q.1, rf_cv ad q.2))).filter (fun q => !(q.1 == i) && !(q.1 + 1 == i && q.2.category == 2)) = (rf_s1 ls i v).map (fun q => (q.1, rf_cv ad q.2)) := by
  unfold rf_s1
  rw [List.map_cons, List.filter_map]
  congr 2
  apply List.filter_congr
  intro q _
  simp [Function.comp, rf_cat]
theorem rf_s2_map (ad : Nat → Nat) (ls : rf_L) (i : Nat) (v : Value) : (i, rf_cv ad v) :: (ls.map (fun q => (q.1, rf_cv ad q.2))).filter (fun q => !(q.1 == i) && (!(q.1 == i + 1) && !(q.1 + 1 == i && q.2.category == 2))) = (rf_s2 ls i v).map (fun q => (q.1, rf_cv ad q.2)) := by
  unfold rf_s2
  rw [List.map_cons, List.filter_map]
  congr 2
  apply List.filter_congr
  intro q _
  simp [Function.comp, rf_cat]
section RFA

variable {p : Program} {l : Launch} {e : Env} {R : Room} {s : State} {m : MethodId} {args : Array Value} {below : List Frame} {meth : Method} {c : Code} {H : Heap} {locs : List Loc} {cells slots : Nat} {Q : State → Prop}

variable {cc : ByteArray} {pc : Nat} {ls : Array Slot}

set_option maxHeartbeats 4000000 in
theorem rf_ar_ok (hx : p.tables.exec = Jvm.exec) (hb : c.code = cc) (ad : Nat → Nat) {I : Instr} {st st' : List Value} (h : rf_ar I st = some st') (hd : decode cc pc = .ok (I, 1))
    (k : W p l e R s m args below meth c H locs cells slots Q (F0 m (pc + 1) ls (st'.map (rf_cv ad)))) : W p l e R s m args below meth c H locs cells slots Q (F0 m pc ls (st.map (rf_cv ad))) := by
  unfold rf_ar at h
  split at h
  · cases h; exact lv_iadd hx hb hd k
  · cases h; exact lv_isub hx hb hd k
  · cases h; exact lv_imul hx hb hd k
  · cases h; exact lv_iand hx hb hd k
  · cases h; exact lv_ior hx hb hd k
  · cases h; exact lv_ixor hx hb hd k
  · split at h
    · cases h
    · rename_i hc; cases h; exact lv_idiv hx hb hd hc k
  · split at h
    · cases h
    · rename_i hc; cases h; exact lv_irem hx hb hd hc k
  · cases h; exact lv_ineg hx hb hd k
  · cases h; exact lv_ishl hx hb hd k
  · cases h; exact lv_ishr hx hb hd k
  · cases h; exact lv_iushr hx hb hd rfl k
  · cases h; exact lv_ladd hx hb hd k
  · cases h; exact lv_lsub hx hb hd k
  · cases h; exact lv_lmul hx hb hd k
  · cases h; exact lv_land hx hb hd k
  · cases h; exact lv_lor hx hb hd k
  · cases h; exact lv_lxor hx hb hd k
  · split at h
    · cases h
    · rename_i hc; cases h; exact lv_ldiv hx hb hd hc k
  · split at h
    · cases h
    · rename_i hc; cases h; exact lv_lrem hx hb hd hc k
  · cases h; exact lv_lneg hx hb hd k
  · cases h; exact lv_lshl hx hb hd rfl k
  · cases h; exact lv_lshr hx hb hd rfl k
  · cases h; exact lv_lushr hx hb hd rfl k
  · cases h; exact W.lcmp hx hb hd k
  · cases h; exact lv_i2l hx hb hd rfl k
  · cases h; exact lv_l2i hx hb hd rfl k
  · cases h; exact lv_i2b hx hb hd rfl k
  · cases h; exact lv_i2s hx hb hd rfl k
  · cases h; exact lv_i2c hx hb hd rfl k
  · split at h
    · rename_i hc; cases h; exact lv_dup hx hb hd (by rw [rf_cat]; exact hc) k
    · cases h
  · split at h
    · rename_i hc; cases h; exact lv_pop hx hb hd (by rw [rf_cat]; exact hc) k
    · cases h
  · split at h
    · rename_i hc; cases h; exact lv_pop2_2 hx hb hd (by rw [rf_cat]; exact hc) k
    · cases h
  · split at h
    · rename_i hc; cases h; exact lv_dup_x1 hx hb hd (by rw [rf_cat]; exact hc.1) (by rw [rf_cat]; exact hc.2) k
    · cases h
  · split at h
    · rename_i hc; cases h; exact lv_dup_x2 hx hb hd (by rw [rf_cat]; exact hc.1) (by rw [rf_cat]; exact hc.2.1) (by rw [rf_cat]; exact hc.2.2) k
    · cases h
  · split at h
    · rename_i hc; cases h; exact lv_dup2_11 hx hb hd (by rw [rf_cat]; exact hc.1) (by rw [rf_cat]; exact hc.2) k
    · split at h
      · rename_i hc; cases h; exact lv_dup2_2 hx hb hd (by rw [rf_cat]; exact hc) k
      · cases h
  · cases h; exact lv_null hx hb hd k
  · cases h
set_option maxHeartbeats 4000000 in
theorem rf_lo_ok (hx : p.tables.exec = Jvm.exec) (hb : c.code = cc) (ad : Nat → Nat) {I : Instr} {aux : List (Int × Nat)} {nL : Nat} {lsA : rf_L} {st st' : List Value} (h : rf_lo I aux lsA st = some st') (hd : decode cc pc = .ok (I, rf_len I)) (hl : lv_has ls nL (lsA.map (fun q => (q.1, rf_cv ad q.2))))
    (k : W p l e R s m args below meth c H locs cells slots Q (F0 m (pc + rf_len I) ls (st'.map (rf_cv ad)))) : W p l e R s m args below meth c H locs cells slots Q (F0 m pc ls (st.map (rf_cv ad))) := by
  have hI : ∀ {i : Nat}, rf_li lsA i st = some st' → ∃ x : Int32, ls[i]? = some (.val (.int x)) ∧ st' = .int x :: st := by
    intro i h
    unfold rf_li at h
    split at h
    · rename_i x hx; cases h; exact ⟨x, rf_ld_ok hx hl, rfl⟩
    · cases h
  have hL : ∀ {i : Nat}, rf_ll lsA i st = some st' → ∃ x : Int64, ls[i]? = some (.val (.long x)) ∧ st' = .long x :: st := by
    intro i h
    unfold rf_ll at h
    split at h
    · rename_i x hx; cases h; exact ⟨x, rf_ld_ok hx hl, rfl⟩
    · cases h
  have hA : ∀ {i : Nat}, rf_la lsA i st = some st' → (∃ x : Nat, ls[i]? = some (.val (.ref (ad x))) ∧ st' = .ref x :: st) ∨ (ls[i]? = some (.val .null) ∧ st' = .null :: st) := by
    intro i h
    unfold rf_la at h
    split at h
    · rename_i x hx; cases h; exact Or.inl ⟨x, rf_ld_ok hx hl, rfl⟩
    · rename_i hx; cases h; exact Or.inr ⟨rf_ld_ok hx hl, rfl⟩
    · cases h
  unfold rf_lo at h
  split at h
  · cases h; exact lv_iconst hx hb hd rfl k
  · cases h; exact lv_bipush hx hb hd rfl k
  · cases h; exact lv_sipush hx hb hd rfl k
  · cases h; exact lv_lconst hx hb hd rfl k
  · obtain ⟨x, h1, rfl⟩ := hI h; exact lv_iload_n hx hb hd rfl h1 k
  · obtain ⟨x, h1, rfl⟩ := hI h; exact lv_iload hx hb hd h1 k
  · obtain ⟨x, h1, rfl⟩ := hL h; exact lv_lload_n hx hb hd rfl h1 k
  · obtain ⟨x, h1, rfl⟩ := hL h; exact lv_lload hx hb hd h1 k
  · rcases hA h with ⟨x, h1, rfl⟩ | ⟨h1, rfl⟩
    · exact lv_aload_n hx hb hd rfl h1 k
    · exact lv_aload_nN hx hb hd rfl h1 k
  · rcases hA h with ⟨x, h1, rfl⟩ | ⟨h1, rfl⟩
    · exact lv_aload hx hb hd h1 k
    · exact lv_aloadN hx hb hd h1 k
  · cases h
set_option maxHeartbeats 4000000 in
theorem rf_so_ok (hx : p.tables.exec = Jvm.exec) (hb : c.code = cc) (ad : Nat → Nat) {I : Instr} {nL : Nat} {lsA : rf_L} {st : List Value} {q' : rf_L × List Value} (h : rf_so I nL lsA st = some q') (hd : decode cc pc = .ok (I, rf_len I)) (hl : lv_has ls nL (lsA.map (fun q => (q.1, rf_cv ad q.2))))
    (k : ∀ ls' : Array Slot, lv_has ls' nL (q'.1.map (fun q => (q.1, rf_cv ad q.2))) → W p l e R s m args below meth c H locs cells slots Q (F0 m (pc + rf_len I) ls' (q'.2.map (rf_cv ad)))) : W p l e R s m args below meth c H locs cells slots Q (F0 m pc ls (st.map (rf_cv ad))) := by
  unfold rf_so at h
  split at h
  · split at h
    · rename_i k1 x r hc; cases h; exact lv_istore_n hx hb hd rfl hl hc (rf_s1_map ad lsA (k1 : Nat) (.int x)) k
    · cases h
  · split at h
    · rename_i k1 x r hc; cases h; exact lv_istore hx hb hd hl hc (rf_s1_map ad lsA k1 (.int x)) k
    · cases h
  · split at h
    · rename_i k1 x r hc; cases h; exact lv_lstore_n hx hb hd rfl hl hc (rf_s2_map ad lsA (k1 : Nat) (.long x)) k
    · cases h
  · split at h
    · rename_i k1 x r hc; cases h; exact lv_lstore hx hb hd hl hc (rf_s2_map ad lsA k1 (.long x)) k
    · cases h
  · split at h
    · rename_i k1 x r hc; cases h; exact lv_astore_n hx hb hd rfl hl hc (rf_s1_map ad lsA (k1 : Nat) (.ref x)) k
    · cases h
  · split at h
    · rename_i k1 x r hc; cases h; exact lv_astore hx hb hd hl hc (rf_s1_map ad lsA k1 (.ref x)) k
    · cases h
  · split at h
    · rename_i k1 r hc; cases h; exact lv_astore_nN hx hb hd rfl hl hc (rf_s1_map ad lsA (k1 : Nat) .null) k
    · cases h
  · split at h
    · rename_i k1 r hc; cases h; exact lv_astoreN hx hb hd hl hc (rf_s1_map ad lsA k1 .null) k
    · cases h
  · split at h
    · rename_i x hx2
      split at h
      · rename_i hc
        cases h
        obtain ⟨j, hj⟩ := rf_ld_ix (ad := ad) hx2
        exact lv_iinc hx hb hd hl hj rfl hc (rf_s1_map ad lsA _ (.int _)) k
      · cases h
    · cases h
  · cases h
/-- what a table of code says of its branches -/
def rf_wb (I : Instr) (aux : List (Int × Nat)) (pc : Nat) : Bool := match I with
  | .goto o => decide ((pc : Int) + o = (rf_tg aux : Int))
  | .ifCond _ o => decide ((pc : Int) + o = (rf_tg aux : Int))
  | .if_icmp _ o => decide ((pc : Int) + o = (rf_tg aux : Int))
  | .if_acmp _ o => decide ((pc : Int) + o = (rf_tg aux : Int))
  | .ifnull o => decide ((pc : Int) + o = (rf_tg aux : Int))
  | .ifnonnull o => decide ((pc : Int) + o = (rf_tg aux : Int))
  | .tableswitch d _ _ offs => decide ((rf_tg aux : Int) = (pc : Int) + d) && decide (aux.tail.map (fun q => (q.2 : Int)) = offs.toList.map (fun o => (pc : Int) + o))
  | .lookupswitch d ps => decide ((rf_tg aux : Int) = (pc : Int) + d) && decide (aux.tail.map (fun q => (q.1, (q.2 : Int))) = ps.toList.map (fun o => (o.1, (pc : Int) + o.2))) && (ps.toList.zip (ps.toList.drop 1)).all (fun (a, next) => a.1 < next.1)
  | _ => true
theorem rf_sw_ok (pc : Int) (d : Int) (dt : Nat) (hd : (dt : Int) = pc + d) (x : Int) : ∀ (aux : List (Int × Nat)) (ps : List (Int × Int)), aux.map (fun q => (q.1, (q.2 : Int))) = ps.map (fun o => (o.1, pc + o.2)) → pc + Op.lookupswitch.offset ps d x = (rf_sw aux dt x : Int) := by
  intro aux
  induction aux with
  | nil =>
    intro ps h
    cases ps with
    | nil => exact hd.symm
    | cons a r => simp at h
  | cons q r ih =>
    intro ps h
    cases ps with
    | nil => simp at h
    | cons a t =>
      obtain ⟨a1, a2⟩ := a
      simp only [List.map_cons, List.cons.injEq, Prod.mk.injEq] at h
      obtain ⟨⟨h1, h2⟩, h3⟩ := h
      rw [Op.lookupswitch.offset_cons]
      unfold rf_sw
      by_cases hk : a1 = x
      · rw [if_pos hk, if_pos (h1.trans hk)]
        exact h2.symm
      · rw [if_neg hk, if_neg (fun z => hk (h1.symm.trans z))]
        exact ih t h3
set_option maxHeartbeats 4000000 in
theorem rf_br_ok (hx : p.tables.exec = Jvm.exec) (hb : c.code = cc) (ad : Nat → Nat) {a0 : Nat} (hin : ∀ x y : Nat, a0 ≤ x → a0 ≤ y → ad x = ad y → x = y) {I : Instr} {aux : List (Int × Nat)} {st : List Value} {q' : Nat × List Value} (h : rf_br a0 I aux pc st = some q') {len : Nat} (hd : decode cc pc = .ok (I, len)) (hlen : len = rf_len I ∨ (∃ a b c d, I = .tableswitch a b c d) ∨ ∃ a b, I = .lookupswitch a b) (hw : rf_wb I aux pc = true)
    (k : W p l e R s m args below meth c H locs cells slots Q (F0 m q'.1 ls (q'.2.map (rf_cv ad)))) : W p l e R s m args below meth c H locs cells slots Q (F0 m pc ls (st.map (rf_cv ad))) := by
  have hl3 : rf_len I = 3 → (∀ a b c d, I ≠ .tableswitch a b c d) → (∀ a b, I ≠ .lookupswitch a b) → len = 3 := by
    intro h1 h2 h3
    rcases hlen with h4 | ⟨a1, b1, c1, d1, h4⟩ | ⟨a1, b1, h4⟩
    · rw [h4, h1]
    · exact absurd h4 (h2 _ _ _ _)
    · exact absurd h4 (h3 _ _)
  unfold rf_br at h
  split at h
  · have e3 := hl3 rfl (fun _ _ _ _ => by simp) (fun _ _ => by simp)
    subst e3
    cases h; exact lv_goto hx hb hd (of_decide_eq_true hw) k
  · rename_i cnd o x r
    have e3 := hl3 rfl (fun _ _ _ _ => by simp) (fun _ _ => by simp)
    subst e3
    cases h
    have ht := of_decide_eq_true hw
    cases cnd
    · refine lv_if_eq hx hb hd ht (fun hc => ?_) (fun hc => ?_)
      · rw [if_pos (by simp [rf_cc, hc])] at k; exact k
      · rw [if_neg (by simp [rf_cc, hc])] at k; exact k
    · refine lv_if_ne hx hb hd ht (fun hc => ?_) (fun hc => ?_)
      · rw [if_pos (by simp [rf_cc, hc])] at k; exact k
      · rw [if_neg (by simp [rf_cc, hc])] at k; exact k
    · refine lv_if_lt hx hb hd ht (fun hc => ?_) (fun hc => ?_)
      · rw [if_pos (by simp only [rf_cc, decide_eq_true_eq]; exact hc)] at k; exact k
      · rw [if_neg (by simp only [rf_cc, decide_eq_true_eq]; exact hc)] at k; exact k
    · refine lv_if_ge hx hb hd ht (fun hc => ?_) (fun hc => ?_)
      · rw [if_pos (by simp only [rf_cc, decide_eq_true_eq]; exact hc)] at k; exact k
      · rw [if_neg (by simp only [rf_cc, decide_eq_true_eq]; exact hc)] at k; exact k
    · refine lv_if_gt hx hb hd ht (fun hc => ?_) (fun hc => ?_)
      · rw [if_pos (by simp only [rf_cc, decide_eq_true_eq]; exact hc)] at k; exact k
      · rw [if_neg (by simp only [rf_cc, decide_eq_true_eq]; exact hc)] at k; exact k
    · refine lv_if_le hx hb hd ht (fun hc => ?_) (fun hc => ?_)
      · rw [if_pos (by simp only [rf_cc, decide_eq_true_eq]; exact hc)] at k; exact k
      · rw [if_neg (by simp only [rf_cc, decide_eq_true_eq]; exact hc)] at k; exact k
  · rename_i cnd o y x r
    have e3 := hl3 rfl (fun _ _ _ _ => by simp) (fun _ _ => by simp)
    subst e3
    cases h
    have ht := of_decide_eq_true hw
    cases cnd
    · refine lv_icmp_eq hx hb hd ht (fun hc => ?_) (fun hc => ?_)
      · rw [if_pos (by simp [rf_cc, hc])] at k; exact k
      · rw [if_neg (by simp [rf_cc, hc])] at k; exact k
    · refine lv_icmp_ne hx hb hd ht (fun hc => ?_) (fun hc => ?_)
      · rw [if_pos (by simp [rf_cc, hc])] at k; exact k
      · rw [if_neg (by simp [rf_cc, hc])] at k; exact k
    · refine lv_icmp_lt hx hb hd ht (fun hc => ?_) (fun hc => ?_)
      · rw [if_pos (by simp only [rf_cc, decide_eq_true_eq]; exact hc)] at k; exact k
      · rw [if_neg (by simp only [rf_cc, decide_eq_true_eq]; exact hc)] at k; exact k
    · refine lv_icmp_ge hx hb hd ht (fun hc => ?_) (fun hc => ?_)
      · rw [if_pos (by simp only [rf_cc, decide_eq_true_eq]; exact hc)] at k; exact k
      · rw [if_neg (by simp only [rf_cc, decide_eq_true_eq]; exact hc)] at k; exact k
    · refine lv_icmp_gt hx hb hd ht (fun hc => ?_) (fun hc => ?_)
      · rw [if_pos (by simp only [rf_cc, decide_eq_true_eq]; exact hc)] at k; exact k
      · rw [if_neg (by simp only [rf_cc, decide_eq_true_eq]; exact hc)] at k; exact k
    · refine lv_icmp_le hx hb hd ht (fun hc => ?_) (fun hc => ?_)
      · rw [if_pos (by simp only [rf_cc, decide_eq_true_eq]; exact hc)] at k; exact k
      · rw [if_neg (by simp only [rf_cc, decide_eq_true_eq]; exact hc)] at k; exact k
  · have e3 := hl3 rfl (fun _ _ _ _ => by simp) (fun _ _ => by simp)
    subst e3
    cases h; exact lv_ifnull hx hb hd k
  · have e3 := hl3 rfl (fun _ _ _ _ => by simp) (fun _ _ => by simp)
    subst e3
    cases h; exact lv_ifnullN hx hb hd (of_decide_eq_true hw) k
  · have e3 := hl3 rfl (fun _ _ _ _ => by simp) (fun _ _ => by simp)
    subst e3
    cases h; exact lv_ifnonnull hx hb hd (of_decide_eq_true hw) k
  · have e3 := hl3 rfl (fun _ _ _ _ => by simp) (fun _ _ => by simp)
    subst e3
    cases h; exact lv_ifnonnullN hx hb hd k
  · rename_i o y x r
    have e3 := hl3 rfl (fun _ _ _ _ => by simp) (fun _ _ => by simp)
    subst e3
    split at h
    · cases h
    rename_i hge
    have g1 : a0 ≤ x := Nat.not_lt.mp fun z => hge (Or.inl z)
    have g2 : a0 ≤ y := Nat.not_lt.mp fun z => hge (Or.inr z)
    cases h
    refine lv_acmp_eq (rx := some (ad x)) (ry := some (ad y)) hx hb hd (of_decide_eq_true hw) (fun hc => ?_) (fun hc => ?_)
    · have hxy := hin x y g1 g2 (Option.some.inj hc)
      rw [if_pos hxy] at k; exact k
    · have hxy : ¬ x = y := fun z => hc (by rw [z])
      rw [if_neg hxy] at k; exact k
  · rename_i o y x r
    have e3 := hl3 rfl (fun _ _ _ _ => by simp) (fun _ _ => by simp)
    subst e3
    split at h
    · cases h
    rename_i hge
    have g1 : a0 ≤ x := Nat.not_lt.mp fun z => hge (Or.inl z)
    have g2 : a0 ≤ y := Nat.not_lt.mp fun z => hge (Or.inr z)
    cases h
    refine lv_acmp_ne (rx := some (ad x)) (ry := some (ad y)) hx hb hd (of_decide_eq_true hw) (fun hc => ?_) (fun hc => ?_)
    · have hxy : ¬ x = y := fun z => hc (by rw [z])
      rw [if_neg hxy] at k; exact k
    · have hxy := hin x y g1 g2 (Option.some.inj hc)
      rw [if_pos hxy] at k; exact k
  · have e3 := hl3 rfl (fun _ _ _ _ => by simp) (fun _ _ => by simp)
    subst e3
    cases h
    exact lv_acmp_eq (rx := none) (ry := none) hx hb hd (of_decide_eq_true hw) (fun hc => k) (fun hc => absurd rfl hc)
  · have e3 := hl3 rfl (fun _ _ _ _ => by simp) (fun _ _ => by simp)
    subst e3
    cases h
    exact lv_acmp_eq (rx := some (ad _)) (ry := none) hx hb hd (of_decide_eq_true hw) (fun hc => absurd hc (by simp)) (fun hc => k)
  · have e3 := hl3 rfl (fun _ _ _ _ => by simp) (fun _ _ => by simp)
    subst e3
    cases h
    exact lv_acmp_eq (rx := none) (ry := some (ad _)) hx hb hd (of_decide_eq_true hw) (fun hc => absurd hc (by simp)) (fun hc => k)
  · have e3 := hl3 rfl (fun _ _ _ _ => by simp) (fun _ _ => by simp)
    subst e3
    cases h
    exact lv_acmp_ne (rx := none) (ry := none) hx hb hd (of_decide_eq_true hw) (fun hc => absurd rfl hc) (fun hc => k)
  · have e3 := hl3 rfl (fun _ _ _ _ => by simp) (fun _ _ => by simp)
    subst e3
    cases h
    exact lv_acmp_ne (rx := some (ad _)) (ry := none) hx hb hd (of_decide_eq_true hw) (fun hc => k) (fun hc => absurd hc (by simp))
  · have e3 := hl3 rfl (fun _ _ _ _ => by simp) (fun _ _ => by simp)
    subst e3
    cases h
    exact lv_acmp_ne (rx := none) (ry := some (ad _)) hx hb hd (of_decide_eq_true hw) (fun hc => k) (fun hc => absurd hc (by simp))
  · rename_i d lo hi offs x r
    unfold rf_wb at hw
    simp only [Bool.and_eq_true, decide_eq_true_eq] at hw
    split at h
    · rename_i ho
      cases h
      exact lv_tableOut hx hb hd ho hw.1.symm k
    · rename_i ho
      have ho1 : ¬ x.toInt < lo := fun z => ho (Or.inl z)
      have ho2 : ¬ hi < x.toInt := fun z => ho (Or.inr z)
      split at h
      · rename_i q hq
        cases h
        cases aux with
        | nil => simp at hq
        | cons a0 t0 =>
          simp only [List.getElem?_cons_succ] at hq
          have h2 : (t0.map (fun q => (q.2 : Int)))[(x.toInt - lo).toNat]? = some (q.2 : Int) := by rw [List.getElem?_map, hq]; rfl
          have h3 := hw.2
          simp only [List.tail_cons] at h3
          rw [h3, List.getElem?_map] at h2
          cases h4 : offs.toList[(x.toInt - lo).toNat]? with
          | none => rw [h4] at h2; cases h2
          | some off =>
            rw [h4] at h2
            exact lv_tableIn hx hb hd ho1 ho2 (by rw [← Array.getElem?_toList]; exact h4) (Option.some.inj h2) k
      · cases h
  · rename_i d ps x r
    unfold rf_wb at hw
    simp only [Bool.and_eq_true, decide_eq_true_eq] at hw
    cases h
    exact lv_lookup hx hb hd hw.2 rfl (rf_sw_ok _ _ _ hw.1.1 _ _ _ hw.1.2) k
  · cases h
end RFA
/-! THE REFLECTION IS TRUE: the heap -/
/-- a cell that the law or the class made -/
def rf_at (D : va_G) (cx : rf_C) (ad : Nat → Nat) (U : State) (H : Heap) (M : rf_M) (a : Nat) (sh : rf_S) : Prop := match sh with
  | .inl ci => ∃ r : vw_C, cx.2.2.2.1[ci]? = some r ∧ t_OB (ad a) (D.1 ci) r.2.2 (D.2 ci) H (fun k => rf_cv ad (rf_rd M (cx.2.2.1 (ci : Int) k) a k))
  | .inr q => ∃ cA : ClassId, H[ad a]? = some (arrV cA q.2 (fun j => rf_cv ad (rf_rd M q.1 a j))) ∧ ArrOfT U cA q.1 ∧ va_RA U cA q.1
/-- a cell that is only read: a constant text, its bytes, the script -/
def rf_ao (ocl : List vw_C) (cx : rf_C) (ad : Nat → Nat) (U : State) (H : Heap) (M : rf_M) (a : Nat) (sh : rf_S) : Prop := match sh with
  | .inl ci => ∃ r : vw_C, ocl[ci]? = some r ∧ (∃ cell : Cell, H[ad a]? = some cell ∧ cell.vm.isStatics = false ∧ U.vm.findClass r.1 = some cell.cls) ∧ ∀ k, k < r.2.2 → ∃ (cf : ClassId) (kf : Class) (fi : Nat) (f : Field) (cell : Cell), U.fieldFound? (r.2.1 k).1 (r.2.1 k).2.1 (r.2.1 k).2.2.1 = some (cf, kf, fi, f) ∧ f.isStatic = false ∧ H[ad a]? = some cell ∧ cell.vm ≠ .unknown ∧ cell.slots[f.slot]? = some (rf_cv ad (rf_rd M (cx.2.2.1 (-(ci : Int) - 1) k) a k))
  | .inr q => ∃ cell : Cell, H[ad a]? = some cell ∧ U.isArrayOf cell q.1 ∧ cell.vm ≠ .unknown ∧ q.2 ≤ cell.slots.size ∧ cell.slots.size.toInt32 = nI q.2 ∧ ∀ j, j < q.2 → cell.slots[j]? = some (rf_cv ad (rf_rd M q.1 a j))
/-- the machine's heap holds the abstract heap -/
def rf_R (ocl : List vw_C) (OH : Heap) (D : va_G) (cx : rf_C) (ad : Nat → Nat) (base : Nat) (U : State) (H : Heap) (h : rf_H) : Prop :=
  (∀ a, cx.2.2.2.2 ≤ a → a < h.2.2.1 → rf_at D cx ad U H h.1 a (h.2.1 a)) ∧ (∀ a, 0 < a → a < cx.2.2.2.2 → rf_ao ocl cx ad U H h.1 a (h.2.1 a)) ∧ H.size = base + (h.2.2.1 - cx.2.2.2.2) ∧ cx.2.2.2.2 ≤ h.2.2.1 ∧ ∀ q : Nat, q < base → H[q]? = OH[q]?
def rf_A (cx : rf_C) (ad : Nat → Nat) (base : Nat) : Prop := (∀ a, cx.2.2.2.2 ≤ a → ad a = base + (a - cx.2.2.2.2)) ∧ (∀ a, 0 < a → a < cx.2.2.2.2 → ad a < base) ∧ 0 < cx.2.2.2.2
theorem rf_at.kept {D : va_G} {cx : rf_C} {ad : Nat → Nat} {U : State} {H H' : Heap} {M M' : rf_M} {a : Nat} {sh : rf_S} (h : rf_at D cx ad U H M a sh) (hq : H'[ad a]? = H[ad a]?) (hM : ∀ (ty : FieldType) (k : Nat), rf_rd M' ty a k = rf_rd M ty a k) : rf_at D cx ad U H' M' a sh := by
  cases sh with
  | inl ci =>
    obtain ⟨r, h1, h2⟩ := h
    exact ⟨r, h1, (h2.kept hq).to (fun k _ => by rw [hM])⟩
  | inr q =>
    obtain ⟨cA, h1, h2⟩ := h
    refine ⟨cA, ?_, h2⟩
    rw [hq, h1]
    simp only [hM]
theorem rf_ao.kept {ocl : List vw_C} {cx : rf_C} {ad : Nat → Nat} {U : State} {H H' : Heap} {M M' : rf_M} {a : Nat} {sh : rf_S} (h : rf_ao ocl cx ad U H M a sh) (hq : H'[ad a]? = H[ad a]?) (hM : ∀ (ty : FieldType) (k : Nat), rf_rd M' ty a k = rf_rd M ty a k) : rf_ao ocl cx ad U H' M' a sh := by
  cases sh with
  | inl ci =>
    obtain ⟨r, h1, h2, h3⟩ := h
    refine ⟨r, h1, by rw [hq]; exact h2, fun k hk => ?_⟩
    obtain ⟨cf, kf, fi, f, cell, g1, g2, g3, g4, g5⟩ := h3 k hk
    exact ⟨cf, kf, fi, f, cell, g1, g2, by rw [hq]; exact g3, g4, by rw [hM]; exact g5⟩
  | inr q =>
    obtain ⟨cell, h1, h2, h3, h4, h4', h5⟩ := h
    exact ⟨cell, by rw [hq]; exact h1, h2, h3, h4, h4', fun j hj => by rw [hM]; exact h5 j hj⟩
theorem rf_at.moved {D : va_G} {cx : rf_C} {ad : Nat → Nat} {u U : State} {H : Heap} {M : rf_M} {a : Nat} {sh : rf_S} (hvm : u.vm.Alike U.vm) (h : rf_at D cx ad u H M a sh) : rf_at D cx ad U H M a sh := by
  cases sh with
  | inl ci => exact h
  | inr q =>
    obtain ⟨cA, h1, h2, h3⟩ := h
    exact ⟨cA, h1, arrOfT_moved hvm h2, h3.moved hvm⟩
theorem rf_ao.moved {ocl : List vw_C} {cx : rf_C} {ad : Nat → Nat} {u U : State} {H : Heap} {M : rf_M} {a : Nat} {sh : rf_S} (hvm : u.vm.Alike U.vm) (h : rf_ao ocl cx ad u H M a sh) : rf_ao ocl cx ad U H M a sh := by
  cases sh with
  | inl ci =>
    obtain ⟨r, h1, ⟨cell, q1, q2, q3⟩, h3⟩ := h
    refine ⟨r, h1, ⟨cell, q1, q2, by rw [hvm.findClass]; exact q3⟩, fun k hk => ?_⟩
    obtain ⟨cf, kf, fi, f, cell, g1, g2, g3, g4, g5⟩ := h3 k hk
    obtain ⟨k', hi', he⟩ := State.fieldFound?_setVm hvm g1
    exact ⟨cf, k', fi, f, cell, hi', g2, g3, g4, g5⟩
  | inr q =>
    obtain ⟨cell, h1, h2, h3⟩ := h
    exact ⟨cell, h1, State.isArrayOf_alike hvm h2, h3⟩
theorem rf_R.moved {ocl : List vw_C} {OH : Heap} {D : va_G} {cx : rf_C} {ad : Nat → Nat} {base : Nat} {u U : State} {H : Heap} {h : rf_H} (hvm : u.vm.Alike U.vm) (hR : rf_R ocl OH D cx ad base u H h) : rf_R ocl OH D cx ad base U H h :=
  ⟨fun a h1 h2 => (hR.1 a h1 h2).moved hvm, fun a h0 h1 => (hR.2.1 a h0 h1).moved hvm, hR.2.2⟩
theorem rf_A.inj {cx : rf_C} {ad : Nat → Nat} {base : Nat} (hA : rf_A cx ad base) {x y : Nat} (h1 : cx.2.2.2.2 ≤ x) (h2 : cx.2.2.2.2 ≤ y) (h : ad x = ad y) : x = y := by
  rw [hA.1 x h1, hA.1 y h2] at h
  omega
theorem rf_A.ne {cx : rf_C} {ad : Nat → Nat} {base : Nat} (hA : rf_A cx ad base) {x y : Nat} (h1 : cx.2.2.2.2 ≤ x) (h0 : 0 < y) (h : y ≠ x) : ad y ≠ ad x := by
  by_cases h2 : cx.2.2.2.2 ≤ y
  · exact fun z => h (hA.inj h2 h1 z)
  · have h3 := hA.2.1 y h0 (Nat.not_le.mp h2)
    have h4 := hA.1 x h1
    omega
/-- one cell has changed -/
theorem rf_R.set {ocl : List vw_C} {OH : Heap} {D : va_G} {cx : rf_C} {ad : Nat → Nat} {base : Nat} {U : State} {H H' : Heap} {h : rf_H} (hR : rf_R ocl OH D cx ad base U H h) (hA : rf_A cx ad base) {a : Nat} (ha0 : cx.2.2.2.2 ≤ a) {M' : rf_M} (hz : H'.size = H.size) (ho : ∀ q : Nat, q ≠ ad a → H'[q]? = H[q]?) (hM : ∀ (ty : FieldType) (a' k : Nat), a' ≠ a → rf_rd M' ty a' k = rf_rd h.1 ty a' k) (hat : rf_at D cx ad U H' M' a (h.2.1 a)) : rf_R ocl OH D cx ad base U H' (M', h.2) := by
  obtain ⟨h1, h2, h3, h4, h6⟩ := hR
  refine ⟨fun b hb0 hb => ?_, fun b hp hb => ?_, by rw [hz]; exact h3, h4, fun q hq => (ho q ?_).trans (h6 q hq)⟩
  · by_cases hab : b = a
    · subst hab; exact hat
    · exact (h1 b hb0 hb).kept (ho _ (hA.ne ha0 (Nat.lt_of_lt_of_le hA.2.2 hb0) hab)) (fun ty k => hM ty b k hab)
  · have hab : b ≠ a := fun z => by subst z; omega
    exact (h2 b hp hb).kept (ho _ (hA.ne ha0 hp hab)) (fun ty k => hM ty b k hab)
  · have := hA.1 a ha0
    omega
theorem rf_nw_ne (h : rf_H) (sh : rf_S) (N : Nat) {a : Nat} (ha : a ≠ h.2.2.1) (ty : FieldType) (k : Nat) : rf_rd (rf_nw h sh N).1 ty a k = rf_rd h.1 ty a k := by
  cases ty <;> simp [rf_rd, rf_nw, va_up, ha]
/-- a new cell -/
theorem rf_R.new {ocl : List vw_C} {OH : Heap} {D : va_G} {cx : rf_C} {ad : Nat → Nat} {base : Nat} {U : State} {H H' : Heap} {h : rf_H} (hR : rf_R ocl OH D cx ad base U H h) (hA : rf_A cx ad base) {sh : rf_S} {N : Nat} (hz : H'.size = H.size + 1) (ho : ∀ q : Nat, q < H.size → H'[q]? = H[q]?) (hat : rf_at D cx ad U H' (rf_nw h sh N).1 h.2.2.1 sh) : rf_R ocl OH D cx ad base U H' (rf_nw h sh N) := by
  obtain ⟨h1, h2, h3, h4, h6⟩ := hR
  refine ⟨fun b hb0 hb => ?_, fun b hp hb => ?_, ?_, ?_, fun q hq => (ho q (by omega)).trans (h6 q hq)⟩
  · by_cases hab : b = h.2.2.1
    · subst hab
      have e : (rf_nw h sh N).2.1 h.2.2.1 = sh := va_up_self _ _ _
      rw [e]
      exact hat
    · have hb2 : b < h.2.2.1 := by
        have : b < h.2.2.1 + 1 := hb
        omega
      have e : (rf_nw h sh N).2.1 b = h.2.1 b := va_up_ne _ _ hab
      rw [e]
      refine (h1 b hb0 hb2).kept (ho _ ?_) (fun ty k => rf_nw_ne h sh N hab ty k)
      rw [hA.1 b hb0, h3]
      omega
  · have hab : b ≠ h.2.2.1 := by omega
    have e : (rf_nw h sh N).2.1 b = h.2.1 b := va_up_ne _ _ hab
    rw [e]
    refine (h2 b hp hb).kept (ho _ ?_) (fun ty k => rf_nw_ne h sh N hab ty k)
    have := hA.2.1 b hp hb
    omega
  · show H'.size = base + (h.2.2.1 + 1 - cx.2.2.2.2)
    rw [hz, h3]
    omega
  · show cx.2.2.2.2 ≤ h.2.2.1 + 1
    omega
theorem rf_ob_ok {h : rf_H} {a ci : Nat} (hq : rf_ob h a = some ci) : 0 < a ∧ a < h.2.2.1 ∧ h.2.1 a = .inl ci := by
  unfold rf_ob at hq
  split at hq
  · rename_i ha
    refine ⟨ha.1, ha.2, ?_⟩
    split at hq
    · rename_i c hc; cases hq; exact hc
    · cases hq
  · cases hq
theorem rf_aa_ok {h : rf_H} {a : Nat} {q : FieldType × Nat} (hq : rf_aa h a = some q) : 0 < a ∧ a < h.2.2.1 ∧ h.2.1 a = .inr q := by
  unfold rf_aa at hq
  split at hq
  · rename_i ha
    refine ⟨ha.1, ha.2, ?_⟩
    split at hq
    · rename_i c hc; cases hq; exact hc
    · cases hq
  · cases hq
/-- any array, as far as it is read -/
theorem rf_R.arr {ocl : List vw_C} {OH : Heap} {D : va_G} {cx : rf_C} {ad : Nat → Nat} {base : Nat} {U : State} {H : Heap} {h : rf_H} (hR : rf_R ocl OH D cx ad base U H h) {a : Nat} {q : FieldType × Nat} (hq : rf_aa h a = some q) : ∃ cell : Cell, H[ad a]? = some cell ∧ U.isArrayOf cell q.1 ∧ cell.vm ≠ .unknown ∧ q.2 ≤ cell.slots.size ∧ cell.slots.size.toInt32 = nI q.2 ∧ ∀ j, j < q.2 → cell.slots[j]? = some (rf_cv ad (rf_rd h.1 q.1 a j)) := by
  obtain ⟨h0, h1, h2⟩ := rf_aa_ok hq
  by_cases ha : cx.2.2.2.2 ≤ a
  · have h3 := hR.1 a ha h1
    rw [h2] at h3
    obtain ⟨cA, g1, g2, g3⟩ := h3
    exact ⟨_, g1, g2 _ _, (fun z => by cases z), by rw [arrV_size]; exact Nat.le_refl _, by rw [arrV_size]; rfl, fun j hj => arrV_read _ _ hj⟩
  · have h3 := hR.2.1 a h0 (Nat.not_le.mp ha)
    rw [h2] at h3
    exact h3
theorem rf_el_ok {h : rf_H} {ty : FieldType} {a : Nat} {j : Int32} {v : Value} (he : rf_el h ty a j = some v) : ∃ n : Nat, rf_aa h a = some (ty, n) ∧ ¬ (j < 0 ∨ n ≤ j.toNatClampNeg) ∧ v = rf_rd h.1 ty a j.toNatClampNeg := by
  unfold rf_el at he
  split at he
  · rename_i q hq
    split at he
    · rename_i hc
      cases he
      refine ⟨q.2, ?_, hc.2, rfl⟩
      rw [hq, ← hc.1]
    · cases he
  · cases he
/-! THE REFLECTION IS TRUE: instructions on the heap -/
/-- a field's link, and the field that it finds -/
def rf_wg (tb : List Cond) (own : String) (idx : Nat) (r : vw_C) (k : Nat) : Prop := k < r.2.2 ∧ ∃ ref : String, Cond.fieldLink own idx ref (r.2.1 k).2.1 (r.2.1 k).2.2.1 ∈ tb ∧ (ref = (r.2.1 k).1 ∨ Cond.sameField ref (r.2.1 k).1 (r.2.1 k).2.1 (r.2.1 k).2.2.1 ∈ tb)
/-- what a table of code says of its links -/
def rf_wlk (cx : rf_C) (ocl : List vw_C) (tb sp : List Cond) (own nm : String) (I : Instr) (aux : List (Int × Nat)) : Prop := match I with
  | .getfield idx => ∀ q ∈ aux, (0 ≤ q.1 → ∃ r : vw_C, cx.2.2.2.1[q.1.toNat]? = some r ∧ rf_wg tb own idx r q.2) ∧ (q.1 < 0 → ∃ r : vw_C, ocl[(-q.1 - 1).toNat]? = some r ∧ rf_wg tb own idx r q.2)
  | .putfield idx => ∀ q ∈ aux, 0 ≤ q.1 → ∃ r : vw_C, cx.2.2.2.1[q.1.toNat]? = some r ∧ rf_wg tb own idx r q.2 ∧ ((r.2.1 q.2).2.2.2 = false ∨ ((r.2.1 q.2).2.2.2 = true ∧ nm = "<init>" ∧ (r.2.1 q.2).1 = own))
  | .new idx => ∀ q ∈ aux, ∀ r : vw_C, cx.2.2.2.1[q.2]? = some r → Cond.classLink own idx r.1 ∈ tb ∧ Cond.instantiable r.1 r.2.2 ∈ tb ∧ Cond.initialized r.1 ∈ tb
  | .newarray t => Cond.arrayClass (newarray.typeOf t) ∈ tb
  | .anewarray idx => ∀ q ∈ aux, ∀ r : vw_C, cx.2.2.2.1[q.2]? = some r → Cond.classLink own idx r.1 ∈ tb ∧ Cond.arrayOver (.object r.1) ∈ sp
  | _ => True
/-- what the tables say of the classes -/
def rf_G (cx : rf_C) (tb : List Cond) : Prop := ∀ (ci : Nat) (r : vw_C), cx.2.2.2.1[ci]? = some r → (∀ w ∈ u_ws r.1 r.2.1 r.2.2, w ∈ tb) ∧ (∀ k, k < r.2.2 → parseFieldDescriptor (r.2.1 k).2.2.1 = some (cx.2.2.1 (ci : Int) k)) ∧ (∀ a, a < r.2.2 → ∀ b, b < r.2.2 → a ≠ b → (r.2.1 a).2.1 ≠ (r.2.1 b).2.1) ∧ (∀ k, k < r.2.2 → cx.2.2.1 (ci : Int) k ≠ .float ∧ cx.2.2.1 (ci : Int) k ≠ .double)
theorem rf_lk_ok {aux : List (Int × Nat)} {z : Int} {k : Nat} (h : rf_lk aux z = some k) : (z, k) ∈ aux := by
  unfold rf_lk at h
  cases hf : aux.find? (fun q => q.1 == z) with
  | none => rw [hf] at h; cases h
  | some q =>
    rw [hf] at h
    have hv : q.2 = k := Option.some.inj h
    have hm := List.mem_of_find?_eq_some hf
    have hi : q.1 = z := by simpa using List.find?_some hf
    rw [← hi, ← hv]
    exact hm
theorem rf_dv {ty : FieldType} (hty : ty ≠ .float ∧ ty ≠ .double) (ad : Nat → Nat) (h : rf_H) (sh : rf_S) (N k : Nat) : defaultValue ty = rf_cv ad (rf_rd (rf_nw h sh N).1 ty h.2.2.1 k) := by
  cases ty <;> first | exact absurd rfl hty.1 | exact absurd rfl hty.2 | simp [defaultValue, rf_rd, rf_nw, va_up, rf_cv, va_rf]
theorem rf_wi_cv (ad : Nat → Nat) (M : rf_M) {ty : FieldType} (hty : ty = .int ∨ ty = .byte ∨ ty = .boolean ∨ ty = .char ∨ ty = .short) (a k : Nat) (x : Int32) : (updV (fun j => rf_cv ad (rf_rd M ty a j)) k (.int x)) = fun j => rf_cv ad (rf_rd (rf_wi M a k x) ty a j) := by
  funext j
  unfold updV
  by_cases hj : j = k
  · subst hj
    rw [if_pos rfl]
    rcases hty with h | h | h | h | h <;> subst h <;> simp [rf_rd, rf_wi, va_up, rf_cv]
  · rw [if_neg hj, rf_wi_ne M x (Or.inr hj)]
theorem rf_wl_cv (ad : Nat → Nat) (M : rf_M) (a k : Nat) (x : Int64) : (updV (fun j => rf_cv ad (rf_rd M .long a j)) k (.long x)) = fun j => rf_cv ad (rf_rd (rf_wl M a k x) .long a j) := by
  funext j
  unfold updV
  by_cases hj : j = k
  · subst hj
    rw [if_pos rfl]
    simp [rf_rd, rf_wl, va_up, rf_cv]
  · rw [if_neg hj, rf_wl_ne M x (Or.inr hj)]
theorem rf_wq_cv (ad : Nat → Nat) (M : rf_M) (C : String) (a k : Nat) (x : Option Nat) : (updV (fun j => rf_cv ad (rf_rd M (.object C) a j)) k (va_rf (x.map ad))) = fun j => rf_cv ad (rf_rd (rf_wq M a k x) (.object C) a j) := by
  funext j
  unfold updV
  by_cases hj : j = k
  · subst hj
    rw [if_pos rfl, ← rf_cvrf]
    simp [rf_rd, rf_wq, va_up]
  · rw [if_neg hj, rf_wq_ne M x (Or.inr hj)]
section RFH
variable {p : Program} {l : Launch} {e : Env} {R : Room} {s : State} {m : MethodId} {args : Array Value} {below : List Frame} {meth : Method} {c : Code} {H : Heap} {locs : List Loc} {cells slots : Nat} {Q : State → Prop}
variable {cc : ByteArray} {pc : Nat} {ls : Array Slot} {D : va_G} {cx : rf_C} {ad : Nat → Nat} {base : Nat} {ocl : List vw_C} {OH : Heap} {tb sp : List Cond} {own : String} {h : rf_H} {rest : List Value}
theorem rf_get_ok (hx : p.tables.exec = Jvm.exec) (hb : c.code = cc) (hts : ∀ w ∈ tb, w.before args s = true) (hG : rf_G cx tb) (hown : s.vm.findClass own = some m.cls) (hK : va_K D cx.2.2.2.1 [] s) (hR : rf_R ocl OH D cx ad base s H h) {a ci k idx : Nat} (hob : rf_ob h a = some ci)
    (hw1 : cx.2.2.2.2 ≤ a → ∃ r : vw_C, cx.2.2.2.1[ci]? = some r ∧ rf_wg tb own idx r k) (hw2 : a < cx.2.2.2.2 → ∃ r : vw_C, ocl[ci]? = some r ∧ rf_wg tb own idx r k) (hd : decode cc pc = .ok (.getfield idx, 3))
    (kk : W p l e R s m args below meth c H locs cells slots Q (F0 m (pc + 3) ls (rf_cv ad (rf_rd h.1 (cx.2.2.1 (rf_ky cx.2.2.2.2 a ci) k) a k) :: rest))) : W p l e R s m args below meth c H locs cells slots Q (F0 m pc ls (.ref (ad a) :: rest)) := by
  obtain ⟨hap, ha, hsh⟩ := rf_ob_ok hob
  by_cases ha0 : cx.2.2.2.2 ≤ a
  · obtain ⟨r, hr, hk, ref, hl, hsm⟩ := hw1 ha0
    have hq := hR.1 a ha0 ha
    rw [hsh] at hq
    obtain ⟨r', hr', cell, q1, q2, q3, q4⟩ := hq
    cases hr.symm.trans hr'
    obtain ⟨hS, hfc, kC, hkC, hkind⟩ := hK.1 ci _ hr
    obtain ⟨cf, kf, fi, f, hi, hsl⟩ := hS k hk
    have hky : rf_ky cx.2.2.2.2 a ci = (ci : Int) := if_neg (Nat.not_lt.mpr ha0)
    rw [hky] at kk
    have hs2 : s.fieldFound? ref (r.2.1 k).2.1 (r.2.1 k).2.2.1 = some (cf, kf, fi, f) := by
      rcases hsm with h5 | h5
      · rw [h5]; exact hi
      · exact u_same (hts _ h5) _ hi
    exact W.getf hx hb hown (hts _ hl) hs2 (u_facts hfc hkC (u_lays hts (hG ci r hr).1 hk) hi).1 q1 (by rw [q3]; exact fun z => by cases z) (by rw [hsl]; exact q4 k hk) rfl rfl hd kk
  · have ha1 := Nat.not_le.mp ha0
    obtain ⟨r, hr, hk, ref, hl, hsm⟩ := hw2 ha1
    have hq := hR.2.1 a hap ha1
    rw [hsh] at hq
    obtain ⟨r', hr', -, h3⟩ := hq
    cases hr.symm.trans hr'
    obtain ⟨cf, kf, fi, f, cell, hi, hst, q1, q3, q4⟩ := h3 k hk
    have hky : rf_ky cx.2.2.2.2 a ci = -(ci : Int) - 1 := if_pos ha1
    rw [hky] at kk
    have hs2 : s.fieldFound? ref (r.2.1 k).2.1 (r.2.1 k).2.2.1 = some (cf, kf, fi, f) := by
      rcases hsm with h5 | h5
      · rw [h5]; exact hi
      · exact u_same (hts _ h5) _ hi
    exact W.getf hx hb hown (hts _ hl) hs2 hst q1 q3 q4 rfl rfl hd kk
theorem rf_put_ok (hx : p.tables.exec = Jvm.exec) (hb : c.code = cc) (hts : ∀ w ∈ tb, w.before args s = true) (hG : rf_G cx tb) (hown : s.vm.findClass own = some m.cls) (hK : va_K D cx.2.2.2.1 [] s) (hA : rf_A cx ad base) (hR : rf_R ocl OH D cx ad base s H h) (hloc : ∀ q ∈ locs, base ≤ q.base) {a ci k idx : Nat} (ha0 : cx.2.2.2.2 ≤ a) (hob : rf_ob h a = some ci)
    {r : vw_C} (hr : cx.2.2.2.1[ci]? = some r) (hw : rf_wg tb own idx r k) (hfin : (r.2.1 k).2.2.2 = false ∨ ((r.2.1 k).2.2.2 = true ∧ meth.name = "<init>" ∧ (r.2.1 k).1 = own)) {v : Value} {M' : rf_M} (hwr : rf_wr h.1 (cx.2.2.1 (ci : Int) k) a k v = some M') (hd : decode cc pc = .ok (.putfield idx, 3))
    (kk : ∀ (H' : Heap) (locs' : List Loc), rf_R ocl OH D cx ad base s H' (M', h.2) → (∀ q ∈ locs', base ≤ q.base) → W p l e R s m args below meth c H' locs' cells slots Q (F0 m (pc + 3) ls rest)) : W p l e R s m args below meth c H locs cells slots Q (F0 m pc ls (rf_cv ad v :: .ref (ad a) :: rest)) := by
  obtain ⟨hap, ha, hsh⟩ := rf_ob_ok hob
  obtain ⟨w1, w2, w3, w4⟩ := rf_wr_ok hwr ad
  obtain ⟨hk, ref, hl, hsm⟩ := hw
  have hq := hR.1 a ha0 ha
  rw [hsh] at hq
  obtain ⟨r', hr', cell, q1, q2, q3, q4⟩ := hq
  cases hr.symm.trans hr'
  obtain ⟨g1, g2, g3, -⟩ := hG ci r hr
  have hapt := va_apart (own := own) hts g1 (cx.2.2.1 (ci : Int)) g2 g3 hK hr
  obtain ⟨hS, hfc, kC, hkC, hkind⟩ := hK.1 ci _ hr
  obtain ⟨cf, kf, fi, f, hi, hsl⟩ := hS k hk
  have hst := (u_facts hfc hkC (u_lays hts g1 hk) hi).1
  have hsame : s.fieldFound? ref (r.2.1 k).2.1 (r.2.1 k).2.2.1 = some (cf, kf, fi, f) := by
    rcases hsm with h5 | h5
    · rw [h5]; exact hi
    · exact u_same (hts _ h5) _ hi
  have hlay := hts _ (g1 _ (u_in_lay hk))
  have hbase : base ≤ ad a := by rw [hA.1 a ha0]; omega
  have done : ∀ H' : Heap, H'[ad a]? = some (cell.setSlot (D.2 ci k) (rf_cv ad v)) → H'.size = H.size → (∀ q, q ≠ ad a → H'[q]? = H[q]?) → rf_R ocl OH D cx ad base s H' (M', h.2) := by
    intro H' e1 e2 e3
    refine hR.set hA ha0 e2 e3 (fun ty a' k' z => w2 ty a' k' (Or.inl z)) ?_
    rw [hsh]
    refine ⟨r, hr, t_OB.to (V := updV (fun j => rf_cv ad (rf_rd h.1 (cx.2.2.1 (ci : Int) j) a j)) k (rf_cv ad v)) ⟨_, e1, q2, q3, t_set q4 hapt hk _⟩ (fun j _ => ?_)⟩
    unfold updV
    by_cases hj : j = k
    · subst hj
      rw [if_pos rfl, w1]
    · rw [if_neg hj, w2 _ _ _ (Or.inr hj)]
  have hl2 : ∀ q ∈ locs ++ [(⟨ad a, D.2 ci k⟩ : Loc)], base ≤ q.base := by
    intro q hq
    rcases List.mem_append.mp hq with h5 | h5
    · exact hloc q h5
    · rw [List.mem_singleton.mp h5]; exact hbase
  rcases hfin with hf | ⟨hf, hin2, hdecl⟩
  · unfold u_lay at hlay
    rw [if_neg (by rw [hf]; decide)] at hlay
    have h6 := u_store hfc hkC hkind hlay hi (g2 k hk) w3 w4
    refine W.putK hx hb (f := f) ⟨hown, hts _ hl, ⟨_, _, _, hsame⟩, hst⟩ (by rw [q2]; exact h6) q1 q3 (by rw [hsl]; exact k2_hasslot (q4 k hk)) rfl rfl hd fun H' e1 e2 e3 => ?_
    rw [hsl] at e1 ⊢
    exact kk H' _ (done H' e1 e2 e3) hl2
  · unfold u_lay at hlay
    rw [if_pos hf] at hlay
    have hcf : m.cls = cf := by
      obtain ⟨_, _, c', _, _, _, -, -, hf', -, -, -, hown2, -⟩ := Cond.laysFinal_spec hlay
      have e1 : c' = cf := by have := hi.symm.trans hf'; simp at this; exact this.1.symm
      rw [hdecl] at hown2
      rw [← e1]; exact Option.some.inj (hown.symm.trans hown2)
    have h6 := u_fits hfc hkC hkind (Or.inr hlay) hi (g2 k hk) w3 w4
    refine W.putFinK hx hb hown (hts _ hl) hsame hst hcf hin2 (by rw [q2]; exact h6) q1 q3 (by rw [hsl]; exact k2_hasslot (q4 k hk)) rfl rfl hd fun H' e1 e2 e3 => ?_
    rw [hsl] at e1 ⊢
    exact kk H' _ (done H' e1 e2 e3) hl2
/-- a store into an array that was made -/
theorem rf_ast_ok (hA : rf_A cx ad base) (hR : rf_R ocl OH D cx ad base s H h) (hloc : ∀ q ∈ locs, base ≤ q.base) {a n : Nat} {ty : FieldType} (ha0 : cx.2.2.2.2 ≤ a) (haa : rf_aa h a = some (ty, n)) {k : Nat} {v : Value} {M' : rf_M} (hv : updV (fun j => rf_cv ad (rf_rd h.1 ty a j)) k v = fun j => rf_cv ad (rf_rd M' ty a j)) (hM : ∀ (ty' : FieldType) (a' k' : Nat), a' ≠ a → rf_rd M' ty' a' k' = rf_rd h.1 ty' a' k') {cA : ClassId} (hcell : H[ad a]? = some (arrV cA n (fun j => rf_cv ad (rf_rd h.1 ty a j)))) (hc1 : ArrOfT s cA ty) (hc2 : va_RA s cA ty)
    (kk : ∀ (H' : Heap) (locs' : List Loc), rf_R ocl OH D cx ad base s H' (M', h.2) → (∀ q ∈ locs', base ≤ q.base) → W p l e R s m args below meth c H' locs' cells slots Q (F0 m (pc + 1) ls rest)) :
    ∀ H' : Heap, H'[ad a]? = some ((arrV cA n (fun j => rf_cv ad (rf_rd h.1 ty a j))).setSlot k v) → H'.size = H.size → (∀ q, q ≠ ad a → H'[q]? = H[q]?) → W p l e R s m args below meth c H' (locs ++ [⟨ad a, k⟩]) cells slots Q (F0 m (pc + 1) ls rest) := by
  intro H' e1 e2 e3
  obtain ⟨-, ha, hsh⟩ := rf_aa_ok haa
  refine kk H' _ (hR.set hA ha0 e2 e3 hM ?_) (fun q hq => ?_)
  · rw [hsh]
    refine ⟨cA, ?_, hc1, hc2⟩
    rw [e1, arrV_store, hv]
  · rcases List.mem_append.mp hq with h5 | h5
    · exact hloc q h5
    · rw [List.mem_singleton.mp h5]
      show base ≤ ad a
      rw [hA.1 a ha0]
      omega
theorem rf_R.made {U : State} (hR : rf_R ocl OH D cx ad base U H h) {a n : Nat} {ty : FieldType} (ha0 : cx.2.2.2.2 ≤ a) (haa : rf_aa h a = some (ty, n)) : ∃ cA : ClassId, H[ad a]? = some (arrV cA n (fun j => rf_cv ad (rf_rd h.1 ty a j))) ∧ ArrOfT U cA ty ∧ va_RA U cA ty := by
  obtain ⟨-, ha, hsh⟩ := rf_aa_ok haa
  have hq := hR.1 a ha0 ha
  rw [hsh] at hq
  exact hq
set_option maxHeartbeats 8000000 in
theorem rf_hp_ok (hx : p.tables.exec = Jvm.exec) (hb : c.code = cc) (hts : ∀ w ∈ tb, w.before args s = true) (hsp : ∀ w ∈ sp, w.before #[] s = true) (hG : rf_G cx tb) (hown : s.vm.findClass own = some m.cls) (hK : va_K D cx.2.2.2.1 [] s) (hA : rf_A cx ad base) (hR : rf_R ocl OH D cx ad base s H h) (hloc : ∀ q ∈ locs, base ≤ q.base)
    {I : Instr} {aux : List (Int × Nat)} {st : List Value} {q' : List Value × rf_H} (he : rf_hp cx I aux st h = some q') (hd : decode cc pc = .ok (I, rf_len I)) {nm : String} (hwl : rf_wlk cx ocl tb sp own nm I aux) (hnm : nm = "<init>" → meth.name = "<init>")
    (hcells : cells + (q'.2.2.2.1 - h.2.2.1) ≤ R.cells) (hslots : slots + (q'.2.2.2.2 - h.2.2.2) ≤ R.slots)
    (kk : ∀ (H' : Heap) (locs' : List Loc), rf_R ocl OH D cx ad base s H' q'.2 → (∀ q ∈ locs', base ≤ q.base) → W p l e R s m args below meth c H' locs' (cells + (q'.2.2.2.1 - h.2.2.1)) (slots + (q'.2.2.2.2 - h.2.2.2)) Q (F0 m (pc + rf_len I) ls (q'.1.map (rf_cv ad)))) : W p l e R s m args below meth c H locs cells slots Q (F0 m pc ls (st.map (rf_cv ad))) := by
  have same : ∀ {st' : List Value} {M' : rf_M}, q' = (st', (M', h.2)) → ∀ (H' : Heap) (locs' : List Loc), rf_R ocl OH D cx ad base s H' (M', h.2) → (∀ q ∈ locs', base ≤ q.base) → W p l e R s m args below meth c H' locs' cells slots Q (F0 m (pc + rf_len I) ls (st'.map (rf_cv ad))) := by
    intro st' M' hq H' locs' h1 h2
    subst hq
    have k2 := kk H' locs' h1 h2
    simp only [Nat.sub_self, Nat.add_zero] at k2
    exact k2
  have here : ∀ {st' : List Value}, q' = (st', h) → W p l e R s m args below meth c H locs cells slots Q (F0 m (pc + rf_len I) ls (st'.map (rf_cv ad))) := fun hq => same (M' := h.1) hq H locs hR hloc
  have ld : ∀ {ty : FieldType} {a : Nat} {j : Int32} {v : Value}, rf_el h ty a j = some v → ∃ cell : Cell, H[ad a]? = some cell ∧ s.isArrayOf cell ty ∧ cell.vm ≠ .unknown ∧ ¬ (j < 0 ∨ cell.slots.size ≤ j.toNatClampNeg) ∧ cell.slots[j.toNatClampNeg]? = some (rf_cv ad v) := by
    intro ty a j v hv
    obtain ⟨n, h1, h2, rfl⟩ := rf_el_ok hv
    obtain ⟨cell, g1, g2, g3, g4, -, g5⟩ := hR.arr h1
    exact ⟨cell, g1, g2, g3, fun z => h2 (z.imp id (fun w => Nat.le_trans g4 w)), g5 _ (Nat.not_le.mp fun z => h2 (Or.inr z))⟩
  unfold rf_hp at he
  split at he
  · -- getfield
    rename_i idx a r
    split at he
    · rename_i ci hob
      split at he
      · rename_i k hlk
        cases he
        have hm := hwl _ (rf_lk_ok hlk)
        refine rf_get_ok hx hb hts hG hown hK hR hob (fun ha0 => ?_) (fun ha1 => ?_) hd (here rfl)
        · have hky : rf_ky cx.2.2.2.2 a ci = (ci : Int) := if_neg (Nat.not_lt.mpr ha0)
          rw [hky] at hm
          exact hm.1 (Int.natCast_nonneg ci)
        · have hky : rf_ky cx.2.2.2.2 a ci = -(ci : Int) - 1 := if_pos ha1
          rw [hky] at hm
          have h5 := hm.2 (by simp only; omega)
          simp only at h5
          rw [show (-(-(ci : Int) - 1) - 1).toNat = ci by omega] at h5
          exact h5
      · cases he
    · cases he
  · -- putfield
    rename_i idx v a r
    split at he
    · cases he
    · rename_i ha1
      have ha0 := Nat.not_lt.mp ha1
      split at he
      · rename_i ci hob
        split at he
        · rename_i k hlk
          split at he
          · rename_i M hwr
            cases he
            obtain ⟨r0, hr0, hw, hf⟩ := hwl _ (rf_lk_ok hlk) (Int.natCast_nonneg ci)
            exact rf_put_ok hx hb hts hG hown hK hA hR hloc ha0 hob (by simpa using hr0) hw (hf.imp id (fun z => ⟨z.1, hnm z.2.1, z.2.2⟩)) hwr hd (same rfl)
          · cases he
        · cases he
      · cases he
  · split at he
    · rename_i v hv
      cases he
      obtain ⟨cell, g1, g2, g3, g4, g5⟩ := ld hv
      exact W.iald hx hb g1 g2 g3 g4 g5 rfl rfl hd (here rfl)
    · cases he
  · split at he
    · rename_i v hv
      cases he
      obtain ⟨cell, g1, g2, g3, g4, g5⟩ := ld hv
      exact W.lald hx hb g1 g2 g3 g4 g5 rfl rfl hd (here rfl)
    · cases he
  · split at he
    · rename_i v hv
      cases he
      obtain ⟨cell, g1, g2, g3, g4, g5⟩ := ld hv
      exact W.bald hx hb g1 g2 g3 g4 g5 rfl rfl hd (here rfl)
    · split at he
      · rename_i v hv
        cases he
        obtain ⟨cell, g1, g2, g3, g4, g5⟩ := ld hv
        exact W.zald hx hb g1 g2 g3 g4 g5 rfl rfl hd (here rfl)
      · cases he
  · split at he
    · rename_i v hv
      cases he
      obtain ⟨cell, g1, g2, g3, g4, g5⟩ := ld hv
      exact W.cald hx hb g1 g2 g3 g4 g5 rfl rfl hd (here rfl)
    · cases he
  · split at he
    · rename_i v hv
      cases he
      obtain ⟨cell, g1, g2, g3, g4, g5⟩ := ld hv
      exact W.sald hx hb g1 g2 g3 g4 g5 rfl rfl hd (here rfl)
    · cases he
  · split at he
    · split at he
      · rename_i v hv
        cases he
        obtain ⟨cell, g1, g2, g3, g4, g5⟩ := ld hv
        exact W.aald hx hb g1 g2 rfl g3 g4 g5 rfl rfl hd (here rfl)
      · cases he
    · split at he
      · rename_i v hv
        cases he
        obtain ⟨cell, g1, g2, g3, g4, g5⟩ := ld hv
        exact W.aald hx hb g1 g2 rfl g3 g4 g5 rfl rfl hd (here rfl)
      · cases he
    · cases he
  · -- iastore
    rename_i x j a r
    split at he
    · cases he
    · rename_i ha1
      split at he
      · rename_i v hv
        cases he
        obtain ⟨n, h1, h2, -⟩ := rf_el_ok hv
        obtain ⟨cA, c1, c2, c3⟩ := hR.made (Nat.not_lt.mp ha1) h1
        exact W.iast hx hb c1 (c2 _ _) (fun z => by cases z) (by rw [arrV_size]; exact h2) rfl rfl hd (rf_ast_ok hA hR hloc (Nat.not_lt.mp ha1) h1 (rf_wi_cv ad h.1 (Or.inl rfl) a _ x) (fun ty a' k' z => rf_wi_ne h.1 x (Or.inl z) ty) c1 c2 c3 (same rfl))
      · cases he
  · rename_i x j a r
    split at he
    · cases he
    · rename_i ha1
      split at he
      · rename_i v hv
        cases he
        obtain ⟨n, h1, h2, -⟩ := rf_el_ok hv
        obtain ⟨cA, c1, c2, c3⟩ := hR.made (Nat.not_lt.mp ha1) h1
        exact W.last hx hb c1 (c2 _ _) (fun z => by cases z) (by rw [arrV_size]; exact h2) rfl rfl hd (rf_ast_ok hA hR hloc (Nat.not_lt.mp ha1) h1 (rf_wl_cv ad h.1 a _ x) (fun ty a' k' z => rf_wl_ne h.1 x (Or.inl z) ty) c1 c2 c3 (same rfl))
      · cases he
  · rename_i x j a r
    split at he
    · cases he
    · rename_i ha1
      split at he
      · rename_i v hv
        cases he
        obtain ⟨n, h1, h2, -⟩ := rf_el_ok hv
        obtain ⟨cA, c1, c2, c3⟩ := hR.made (Nat.not_lt.mp ha1) h1
        exact W.bast hx hb c1 (c2 _ _) (fun z => by cases z) (by rw [arrV_size]; exact h2) rfl rfl hd (rf_ast_ok hA hR hloc (Nat.not_lt.mp ha1) h1 (rf_wi_cv ad h.1 (Or.inr (Or.inl rfl)) a _ _) (fun ty a' k' z => rf_wi_ne h.1 _ (Or.inl z) ty) c1 c2 c3 (same rfl))
      · split at he
        · rename_i v hv
          cases he
          obtain ⟨n, h1, h2, -⟩ := rf_el_ok hv
          obtain ⟨cA, c1, c2, c3⟩ := hR.made (Nat.not_lt.mp ha1) h1
          exact W.zast hx hb c1 (c2 _ _) (fun z => by cases z) (by rw [arrV_size]; exact h2) rfl rfl hd (rf_ast_ok hA hR hloc (Nat.not_lt.mp ha1) h1 (rf_wi_cv ad h.1 (Or.inr (Or.inr (Or.inl rfl))) a _ _) (fun ty a' k' z => rf_wi_ne h.1 _ (Or.inl z) ty) c1 c2 c3 (same rfl))
        · cases he
  · rename_i x j a r
    split at he
    · cases he
    · rename_i ha1
      split at he
      · rename_i v hv
        cases he
        obtain ⟨n, h1, h2, -⟩ := rf_el_ok hv
        obtain ⟨cA, c1, c2, c3⟩ := hR.made (Nat.not_lt.mp ha1) h1
        exact W.cast hx hb c1 (c2 _ _) (fun z => by cases z) (by rw [arrV_size]; exact h2) rfl rfl hd (rf_ast_ok hA hR hloc (Nat.not_lt.mp ha1) h1 (rf_wi_cv ad h.1 (Or.inr (Or.inr (Or.inr (Or.inl rfl)))) a _ _) (fun ty a' k' z => rf_wi_ne h.1 _ (Or.inl z) ty) c1 c2 c3 (same rfl))
      · cases he
  · -- aastore of an object
    rename_i v j a r
    split at he
    · cases he
    · rename_i ha1
      have ha0 : cx.2.2.2.2 ≤ a := Nat.not_lt.mp fun z => ha1 (Or.inl z)
      have hv0 : cx.2.2.2.2 ≤ v := Nat.not_lt.mp fun z => ha1 (Or.inr z)
      split at he
      · rename_i C n ci haa hob
        split at he
        · rename_i hc
          cases he
          obtain ⟨cA, c1, c2, c3⟩ := hR.made ha0 haa
          obtain ⟨-, hv1, hsh⟩ := rf_ob_ok hob
          have hq := hR.1 v hv0 hv1
          rw [hsh] at hq
          obtain ⟨r1, hr1, cellV, g1, g2, g3, -⟩ := hq
          have hC : r1.1 = C := by have h5 := hc.1; rw [hr1] at h5; exact Option.some.inj h5
          have hcls := (hK.1 ci r1 hr1).2
          obtain ⟨kA, comp, k1, k2, k3, -⟩ := c3
          have hcomp : comp = D.1 ci := by rw [← hC] at k3; exact Option.some.inj (k3.symm.trans hcls.1)
          subst hcomp
          obtain ⟨kC, hkC, -⟩ := hcls.2
          obtain ⟨cA2, d1, d2, d3⟩ := hR.made ha0 haa
          have hcA : cA2 = cA := by have h6 := d1.symm.trans c1; exact congrArg (fun z : Option Cell => (z.map (·.cls)).getD 0) h6
          subst hcA
          have hlt : j.toNatClampNeg < n := Nat.not_le.mp fun z => hc.2 (Or.inr z)
          exact W.aast hx hb c1 (fun z h7 => by cases h7) (fun h7 => by cases h7) k1 k2 rfl hkC ⟨fun z => hc.2 (Or.inl z), by rw [arrV_size]; exact hlt⟩ g1 (fun z h7 => by rw [g3] at h7; cases h7) (by rw [g2]; exact hkC) (by rw [g2]; exact va_assign hcls) rfl rfl hd (rf_ast_ok hA hR hloc ha0 haa (rf_wq_cv ad h.1 C a _ (some v)) (fun ty a' k' z => rf_wq_ne h.1 (some v) (Or.inl z) ty) c1 c2 d3 (same rfl))
        · cases he
      · cases he
  · -- aastore of null
    rename_i j a r
    split at he
    · cases he
    · rename_i ha1
      have ha0 : cx.2.2.2.2 ≤ a := Nat.not_lt.mp ha1
      split at he
      · rename_i C n haa
        split at he
        · rename_i hc
          cases he
          obtain ⟨cA, c1, c2, c3⟩ := hR.made ha0 haa
          exact va_WaastN (C := C) hx hb c1 (c2 _ _) (fun h7 => by cases h7) (by rw [arrV_size]; exact hc) rfl rfl hd (rf_ast_ok hA hR hloc ha0 haa (rf_wq_cv ad h.1 C a _ none) (fun ty a' k' z => rf_wq_ne h.1 none (Or.inl z) ty) c1 c2 c3 (same rfl))
        · cases he
      · cases he
  · -- arraylength
    split at he
    · rename_i q hq
      cases he
      obtain ⟨cell, g1, g2, g3, -, g4, g5⟩ := hR.arr hq
      exact W.alen hx hb g1 g2 g4 rfl rfl hd (here rfl)
    · cases he
  · -- new
    split at he
    · rename_i x1 ci
      split at he
      · rename_i q hq
        cases he
        obtain ⟨l1, l2, l3⟩ := hwl (x1, ci) (List.mem_singleton.mpr rfl) q hq
        obtain ⟨g1, g2, g3, g4⟩ := hG ci q hq
        have hKn := hK.1 ci _ hq
        have e1 : (rf_nw h (.inl ci) q.2.2).2.2.1 - h.2.2.1 = 1 := by show h.2.2.1 + 1 - h.2.2.1 = 1; omega
        have e2 : (rf_nw h (.inl ci) q.2.2).2.2.2 - h.2.2.2 = q.2.2 := by show h.2.2.2 + q.2.2 - h.2.2.2 = q.2.2; omega
        simp only [e1, e2] at hcells hslots kk
        have had : H.size = ad h.2.2.1 := by rw [hA.1 _ hR.2.2.2.1, hR.2.2.1]
        refine W.newcK hx hb hown (hts _ l1) (hts _ l2) (hts _ l3) rfl hd hcells hslots hKn.2.1 had fun H1 kC hkC e1 z1 o1 => ?_
        refine kk H1 locs (hR.new hA (by rw [z1, had]) (fun x hx => o1 x (by rw [← had]; exact hx)) ?_) hloc
        exact ⟨q, hq, (u_born (cx.2.2.1 (ci : Int)) hts g1 hKn hkC e1 g2).to (fun k hk => rf_dv (g4 k hk) ad h _ _ k)⟩
      · cases he
    · cases he
  · -- newarray
    rename_i t n r
    split at he
    · rename_i hc
      cases he
      have e1 : (rf_nw h (.inr (newarray.typeOf t, n.toNatClampNeg)) n.toNatClampNeg).2.2.1 - h.2.2.1 = 1 := by show h.2.2.1 + 1 - h.2.2.1 = 1; omega
      have e2 : (rf_nw h (.inr (newarray.typeOf t, n.toNatClampNeg)) n.toNatClampNeg).2.2.2 - h.2.2.2 = n.toNatClampNeg := by show h.2.2.2 + n.toNatClampNeg - h.2.2.2 = n.toNatClampNeg; omega
      simp only [e1, e2] at hcells hslots kk
      have had : H.size = ad h.2.2.1 := by rw [hA.1 _ hR.2.2.2.1, hR.2.2.1]
      refine va_newaK hx hb (hts _ hwl) rfl hd rfl hc.1 rfl hc.2.1 hcells hslots had fun H1 cA e1 z1 o1 hAr hNm => ?_
      refine kk H1 locs (hR.new hA (by rw [z1, had]) (fun x hx => o1 x (by rw [← had]; exact hx)) ?_) hloc
      refine ⟨cA, ?_, hAr, by cases t <;> exact hNm⟩
      rw [e1]
      congr 2
      funext j
      exact rf_dv hc.2.2 ad h _ _ j
    · cases he
  · -- anewarray
    rename_i idx n r
    split at he
    · rename_i x1 ci
      split at he
      · rename_i q hq
        split at he
        · rename_i hc
          cases he
          obtain ⟨l1, l2⟩ := hwl (x1, ci) (List.mem_singleton.mpr rfl) q hq
          have e1 : (rf_nw h (.inr (.object q.1, n.toNatClampNeg)) n.toNatClampNeg).2.2.1 - h.2.2.1 = 1 := by show h.2.2.1 + 1 - h.2.2.1 = 1; omega
          have e2 : (rf_nw h (.inr (.object q.1, n.toNatClampNeg)) n.toNatClampNeg).2.2.2 - h.2.2.2 = n.toNatClampNeg := by show h.2.2.2 + n.toNatClampNeg - h.2.2.2 = n.toNatClampNeg; omega
          simp only [e1, e2] at hcells hslots kk
          have had : H.size = ad h.2.2.1 := by rw [hA.1 _ hR.2.2.2.1, hR.2.2.1]
          refine W.anew hx hb hown (hts _ l1) (va_AO.use (hsp _ l2)) rfl hd rfl hc.1 hc.2 hcells hslots fun cA kA comp f1 f2 f3 f4 => ?_
          rw [had]
          refine kk _ locs (hR.new hA (by simp) (fun x hx => by rw [Array.getElem?_push, if_neg (Nat.ne_of_lt hx)]) ?_) hloc
          refine ⟨cA, ?_, fun N z => ⟨(fun k h7 => by cases h7), kA, f2, comp, f3⟩, kA, comp, f2, f3, f4, f1⟩
          rw [← had, Array.getElem?_push_size, arrV_new]
          congr 2
          funext j
          exact rf_dv (ty := .object q.1) ⟨by simp, by simp⟩ ad h _ _ j
        · cases he
      · cases he
    · cases he
  · cases he
end RFH
/-! THE REFLECTION IS TRUE: members of the JDK that the kit has rows for, constants of the pool -/
/-- what a table of code says of such a call -/
def rf_wi8 (tb : List Cond) (own : String) (idx : Nat) (kd : Int) : Prop :=
  (kd = 10 → Cond.methodLink own idx objectInit ∈ tb ∧ Cond.instanceMethod objectInit ∈ tb ∧ Cond.code objectInit ⟨#[0xb1]⟩ 1 none ∈ tb) ∧
  (kd = 11 → Cond.methodLink own idx arraycopyName ∈ tb ∧ Cond.native arraycopyName ∈ tb ∧ Cond.static arraycopyName ∈ tb ∧ Cond.initialized "java/lang/System" ∈ tb) ∧
  (kd = 12 → Cond.methodLink own idx Lib.Math.min.name ∈ tb ∧ Cond.static Lib.Math.min.name ∈ tb ∧ Cond.initialized "java/lang/Math" ∈ tb ∧ Cond.code Lib.Math.min.name Lib.Math.min.code 2 (some .int) ∈ tb) ∧
  (kd = 13 → Cond.methodLink own idx Lib.Math.max.name ∈ tb ∧ Cond.static Lib.Math.max.name ∈ tb ∧ Cond.initialized "java/lang/Math" ∈ tb ∧ Cond.code Lib.Math.max.name Lib.Math.max.code 2 (some .int) ∈ tb)
theorem rf_ok8_ok {r : List Value} {d : Nat × Nat} {w : Nat} (h : rf_ok8 r d w = true) : 1 ≤ d.1 ∧ (r.map fun v => v.category).sum + w ≤ d.2 := by
  unfold rf_ok8 at h
  simpa using h
section RFB
variable {p : Program} {l : Launch} {e : Env} {R : Room} {s : State} {m : MethodId} {args : Array Value} {below : List Frame} {meth : Method} {c : Code} {H : Heap} {locs : List Loc} {cells slots : Nat} {Q : State → Prop}
variable {cc : ByteArray} {pc : Nat} {ls : Array Slot} {D : va_G} {cx : rf_C} {ad : Nat → Nat} {base : Nat} {ocl : List vw_C} {OH : Heap} {tb sp : List Cond} {own : String} {h : rf_H} {rest : List Value}
set_option maxHeartbeats 4000000 in
theorem rf_cpy_ok (hx : p.tables.exec = Jvm.exec) (hb : c.code = cc) (hml : c.maxLocals = ls.size) (hts : ∀ w ∈ tb, w.before args s = true) (hown : s.vm.findClass own = some m.cls) {idx : Nat} (hl : Cond.methodLink own idx arraycopyName ∈ tb ∧ Cond.native arraycopyName ∈ tb ∧ Cond.static arraycopyName ∈ tb ∧ Cond.initialized "java/lang/System" ∈ tb)
    (hA : rf_A cx ad base) (hR : rf_R ocl OH D cx ad base s H h) (hloc : ∀ q ∈ locs, base ≤ q.base) {a1 a2 n1 n2 : Nat} {ty : FieldType} (hty : ty = .int ∨ ty = .long) (g1 : cx.2.2.2.2 ≤ a1) (g2 : cx.2.2.2.2 ≤ a2) (haa1 : rf_aa h a1 = some (ty, n1)) (haa2 : rf_aa h a2 = some (ty, n2))
    {dp sp n : Int32} (h1 : ¬ sp < 0) (h2 : ¬ dp < 0) (h3 : ¬ n < 0) (h4 : sp.toNatClampNeg + n.toNatClampNeg ≤ n2) (h5 : dp.toNatClampNeg + n.toNatClampNeg ≤ n1) {M' : rf_M} (hM : ∀ (ty' : FieldType) (a' k' : Nat), a' ≠ a1 → rf_rd M' ty' a' k' = rf_rd h.1 ty' a' k')
    (hv : va_cpy (fun j => rf_cv ad (rf_rd h.1 ty a2 j)) (fun j => rf_cv ad (rf_rd h.1 ty a1 j)) sp.toNatClampNeg dp.toNatClampNeg n.toNatClampNeg = fun j => rf_cv ad (rf_rd M' ty a1 j))
    (hframes : 1 ≤ R.frames) (hlocals : (rest.map fun v => v.category).sum + 18 ≤ R.locals) (hd : decode cc pc = .ok (.invokestatic idx, 3))
    (kk : ∀ (H' : Heap) (locs' : List Loc), rf_R ocl OH D cx ad base s H' (M', h.2) → (∀ q ∈ locs', base ≤ q.base) → W p l e R s m args below meth c H' locs' cells slots Q (F0 m (pc + 3) ls rest)) : W p l e R s m args below meth c H locs cells slots Q (F0 m pc ls (.int n :: .int dp :: .ref (ad a1) :: .int sp :: .ref (ad a2) :: rest)) := by
  have nn : ∀ z : Int32, ¬ z < 0 → z.toInt = (z.toNatClampNeg : Int) := by
    intro z hz
    have hz0 : (0 : Int) ≤ z.toInt := by
      have := Int32.not_lt.mp hz
      simpa using Int32.le_iff_toInt_le.mp this
    show z.toInt = ((z.toInt.toNat : Nat) : Int)
    omega
  intro T hT X
  obtain ⟨c1, e1, f1, f1'⟩ := hR.made g1 haa1
  obtain ⟨c2, e2, f2, f2'⟩ := hR.made g2 haa2
  obtain ⟨-, k2, hk2, cm2, hkk2⟩ := f2 n2 (fun j => rf_cv ad (rf_rd h.1 ty a2 j))
  obtain ⟨-, k1, hk1, cm1, hkk1⟩ := f1 n1 (fun j => rf_cv ad (rf_rd h.1 ty a1 j))
  have hprim : refKind ty = false := by rcases hty with z | z <;> subst z <;> rfl
  obtain ⟨vm', X', step⟩ := X.arraycopy hx hown (hts _ hl.1) (hts _ hl.2.1) (hts _ hl.2.2.1) (hts _ hl.2.2.2) (src := ad a2) (dst := ad a1) (srcPos := sp) (destPos := dp) (n := n) (by rw [hT]; exact e2) (by rw [hT]; exact e1)
    (fun _ z => by cases z) (fun _ z => by cases z) (fun z => by cases z) (fun z => by cases z) hk2 hk1 hkk2 hkk1 (by simp [hprim]) h1 h2 h3
    (by rw [nn sp h1, nn n h3, arrV_size]; omega)
    (by rw [nn dp h2, nn n h3, arrV_size]; omega)
    (fun vm₁ _ i hi => by
      have e : (arrV c2 n2 (fun j => rf_cv ad (rf_rd h.1 ty a2 j))).slots.getD (sp.toNatClampNeg + i) .null = rf_cv ad (rf_rd h.1 ty a2 (sp.toNatClampNeg + i)) := by
        rw [Array.getD_eq_getD_getElem?, arrV_read _ _ (by omega)]
        rfl
      rw [e]
      rcases hty with z | z <;> subst z <;> exact ⟨rfl, trivial⟩)
    (g := F0 m pc ls (.int n :: .int dp :: .ref (ad a1) :: .int sp :: .ref (ad a2) :: rest)) rfl (by rw [hml]) (rest := rest) rfl (by rw [hb]; exact hd) hframes (by
      have e7 : nativeFrameWords "java/lang/System" "arraycopy" 5 = 7 := by decide +kernel
      rw [e7]
      show 2 * 0 + _ + _ ≤ _
      omega)
  have e3 : copied (arrV c2 n2 (fun j => rf_cv ad (rf_rd h.1 ty a2 j))) (arrV c1 n1 (fun j => rf_cv ad (rf_rd h.1 ty a1 j))) sp dp n = arrV c1 n1 (fun j => rf_cv ad (rf_rd M' ty a1 j)) := by
    have e4 := va_copied (fun z : Value => z) c2 c1 (n1 := n1) (dp := dp.toNatClampNeg) (fun j => rf_cv ad (rf_rd h.1 ty a2 j)) (fun j => rf_cv ad (rf_rd h.1 ty a1 j)) h4
    rw [← hv]
    exact e4
  rw [e3] at X' step
  have hlt : ad a1 < H.size := (Array.getElem?_eq_some_iff.mp e1).1
  have hheap : ((T.setVm vm').setCell (ad a1) (arrV c1 n1 (fun j => rf_cv ad (rf_rd M' ty a1 j)))).heap = H.setIfInBounds (ad a1) (arrV c1 n1 (fun j => rf_cv ad (rf_rd M' ty a1 j))) := by rw [← hT]; rfl
  have oq : ∀ q : Nat, q ≠ ad a1 → (H.setIfInBounds (ad a1) (arrV c1 n1 (fun j => rf_cv ad (rf_rd M' ty a1 j))))[q]? = H[q]? := fun q hq => by simp [Array.getElem?_setIfInBounds, Ne.symm hq]
  obtain ⟨-, -, hsh⟩ := rf_aa_ok haa1
  obtain ⟨t, b1, b2⟩ := kk _ _ (hR.set hA g1 (by simp) oq hM (by
      rw [hsh]
      exact ⟨c1, by simp [Array.getElem?_setIfInBounds, hlt], f1, f1'⟩)) (fun q hq => by
      rcases List.mem_append.mp hq with z | z
      · exact hloc q z
      · obtain ⟨w, -, hw⟩ := List.mem_map.mp z
        rw [← hw]
        show base ≤ ad a1
        rw [hA.1 a1 g1]
        omega) _ hheap X'
  exact ⟨t, step t b1, b2⟩
theorem rf_cpyI (ad : Nat → Nat) (M : rf_M) (a1 a2 sp dp n : Nat) : va_cpy (fun j => rf_cv ad (rf_rd M .int a2 j)) (fun j => rf_cv ad (rf_rd M .int a1 j)) sp dp n = fun j => rf_cv ad (rf_rd (va_up M.1 a1 (va_cpy (M.1 a2) (M.1 a1) sp dp n), M.2.1, M.2.2) .int a1 j) := by
  funext j
  simp only [rf_rd, va_up_self]
  unfold va_cpy
  split <;> rfl
theorem rf_cpyL (ad : Nat → Nat) (M : rf_M) (a1 a2 sp dp n : Nat) : va_cpy (fun j => rf_cv ad (rf_rd M .long a2 j)) (fun j => rf_cv ad (rf_rd M .long a1 j)) sp dp n = fun j => rf_cv ad (rf_rd (M.1, va_up M.2.1 a1 (va_cpy (M.2.1 a2) (M.2.1 a1) sp dp n), M.2.2) .long a1 j) := by
  funext j
  simp only [rf_rd, va_up_self]
  unfold va_cpy
  split <;> rfl
set_option maxHeartbeats 4000000 in
theorem rf_bi_ok (hx : p.tables.exec = Jvm.exec) (hb : c.code = cc) (hml : c.maxLocals = ls.size) (hts : ∀ w ∈ tb, w.before args s = true) (hown : s.vm.findClass own = some m.cls) (hA : rf_A cx ad base) (hR : rf_R ocl OH D cx ad base s H h) (hloc : ∀ q ∈ locs, base ≤ q.base)
    {I : Instr} {idx : Nat} {kd : Int} {d : Nat × Nat} {st : List Value} {q' : List Value × rf_H} (he : rf_bi cx kd d st h = some q') (hI : (kd = 10 ∧ I = .invokespecial idx) ∨ (kd ≠ 10 ∧ I = .invokestatic idx)) (hd : decode cc pc = .ok (I, 3)) (hw : rf_wi8 tb own idx kd)
    (hfr : d.1 ≤ R.frames) (hlo : d.2 ≤ R.locals) (hc : cells ≤ R.cells) (hs : slots ≤ R.slots)
    (kk : ∀ (H' : Heap) (locs' : List Loc), rf_R ocl OH D cx ad base s H' q'.2 → (∀ q ∈ locs', base ≤ q.base) → W p l e R s m args below meth c H' locs' cells slots Q (F0 m (pc + 3) ls (q'.1.map (rf_cv ad)))) : q'.2.2 = h.2 ∧ W p l e R s m args below meth c H locs cells slots Q (F0 m pc ls (st.map (rf_cv ad))) := by
  unfold rf_bi at he
  split at he
  · rename_i hk
    obtain ⟨w1, w2, w3⟩ := hw.1 hk
    have hI2 : I = .invokespecial idx := by
      rcases hI with z | z
      · exact z.2
      · exact absurd hk z.1
    subst hI2
    split at he
    · rename_i a r
      split at he
      · rename_i h8
        cases he
        obtain ⟨r1, r2⟩ := rf_ok8_ok h8
        refine ⟨rfl, W.objInit hx hb hown (hts _ w1) (hts _ w2) (hts _ w3) rfl hml.symm rfl hd (by omega) ?_ (kk H locs hR hloc)⟩
        rw [rf_cats]
        show 2 * 0 + _ + 12 ≤ _
        omega
      · cases he
    · cases he
  · rename_i hk0
    have hI2 : I = .invokestatic idx := by
      rcases hI with z | z
      · exact absurd z.1 hk0
      · exact z.2
    subst hI2
    split at he
    · rename_i hk
      have wl := hw.2.1 hk
      split at he
      · rename_i n dp a1 sp a2 r
        split at he
        · rename_i h8
          obtain ⟨h8, ha1, ha2, i1, i2, i3⟩ := h8
          obtain ⟨r1, r2⟩ := rf_ok8_ok h8
          split at he
          · rename_i n1 n2 haa1 haa2
            split at he
            · rename_i hcc
              cases he
              exact ⟨rfl, rf_cpy_ok hx hb hml hts hown wl hA hR hloc (Or.inl rfl) (Nat.not_lt.mp ha1) (Nat.not_lt.mp ha2) haa1 haa2 i1 i2 i3 hcc.1 hcc.2 (fun ty' a' k' z => by cases ty' <;> simp [rf_rd, va_up, z]) (rf_cpyI ad h.1 a1 a2 _ _ _) (by omega) (by rw [rf_cats]; omega) hd kk⟩
            · cases he
          · rename_i n1 n2 haa1 haa2
            split at he
            · rename_i hcc
              cases he
              exact ⟨rfl, rf_cpy_ok hx hb hml hts hown wl hA hR hloc (Or.inr rfl) (Nat.not_lt.mp ha1) (Nat.not_lt.mp ha2) haa1 haa2 i1 i2 i3 hcc.1 hcc.2 (fun ty' a' k' z => by cases ty' <;> simp [rf_rd, va_up, z]) (rf_cpyL ad h.1 a1 a2 _ _ _) (by omega) (by rw [rf_cats]; omega) hd kk⟩
            · cases he
          · cases he
        · cases he
      · cases he
    · split at he
      · rename_i hk
        obtain ⟨w1, w2, w3, w4⟩ := hw.2.2.1 hk
        split at he
        · rename_i y x r
          split at he
          · rename_i h8
            cases he
            obtain ⟨r1, r2⟩ := rf_ok8_ok h8
            exact ⟨rfl, va_mmin hx hb hml hown (hts _ w1) (hts _ w2) (hts _ w3) (hts _ w4) (by omega) (by rw [rf_cats]; omega) hc hs hd (kk H locs hR hloc)⟩
          · cases he
        · cases he
      · split at he
        · rename_i hk
          obtain ⟨w1, w2, w3, w4⟩ := hw.2.2.2 hk
          split at he
          · rename_i y x r
            split at he
            · rename_i h8
              cases he
              obtain ⟨r1, r2⟩ := rf_ok8_ok h8
              exact ⟨rfl, va_mmax hx hb hml hown (hts _ w1) (hts _ w2) (hts _ w3) (hts _ w4) (by omega) (by rw [rf_cats]; omega) hc hs hd (kk H locs hR hloc)⟩
            · cases he
          · cases he
        · cases he
end RFB
/-! THE REFLECTION IS TRUE: calls, and the whole -/
/-- words that the frame's tables keep, though they are none of those that 'keeps' names -/
def rf_spk : Cond → Bool
  | .fieldLinkNest _ _ _ _ _ _ => true
  | .methodLinkNest _ _ _ _ => true
  | .declares _ => true
  | .castable _ _ => true
  | .arrayOver (.object _) => true
  | _ => false
theorem rf_sp_warm {w : Cond} (hk : rf_spk w = true) {s U : State} (hW : s.WarmedH U.vm) (hz : w.before #[] s = true) : w.before #[] U = true := by
  unfold rf_spk at hk
  split at hk
  · exact va_Nw.warmF hW hz
  · exact va_Nw.warmM hW hz
  · exact va_Nw.warmD hW hz
  · exact va_Nw.warmC hW hz
  · exact va_AO.moved hW.alike hz
  · cases hk
theorem rf_sp_same {w : Cond} (hk : rf_spk w = true) {s U : State} (hv : s.vm = U.vm) (hz : w.before #[] s = true) : w.before #[] U = true := by
  unfold rf_spk at hk
  split at hk
  · exact va_Nw.same rfl hv hz
  · exact va_Nw.same rfl hv hz
  · exact va_Nw.same rfl hv hz
  · exact va_Nw.same rfl hv hz
  · exact va_AO.moved (by rw [hv]; exact Vm.Alike.refl _) hz
  · cases hk
/-- beside the heap: the special words, the constant texts, the static numbers -/
def rf_E (sp : List Cond) (str : List (String × Nat × String × Nat)) (stt : List (String × String × String × Value)) (OH : Heap) (ad : Nat → Nat) (base : Nat) (U : State) : Prop :=
  (∀ w ∈ sp, w.before #[] U = true) ∧ (∀ q ∈ str, vk_R q.1 q.2.1 q.2.2.1 (ad q.2.2.2) U) ∧ ∀ q ∈ stt, va_Z q.1 q.2.1 q.2.2.1 (rf_cv ad q.2.2.2) (fun x => base ≤ x) U OH
theorem rf_E.warm {sp : List Cond} {str : List (String × Nat × String × Nat)} {stt : List (String × String × String × Value)} {OH : Heap} {ad : Nat → Nat} {base : Nat} {s U : State} (hs : ∀ w ∈ sp, rf_spk w = true) (hW : s.WarmedH U.vm) (h : rf_E sp str stt OH ad base s) : rf_E sp str stt OH ad base U :=
  ⟨fun w hw => rf_sp_warm (hs w hw) hW (h.1 w hw), fun q hq => vk_R.warm hW (h.2.1 q hq), fun q hq => va_Z.moved hW.alike (h.2.2 q hq)⟩
theorem rf_E.same {sp : List Cond} {str : List (String × Nat × String × Nat)} {stt : List (String × String × String × Value)} {OH : Heap} {ad : Nat → Nat} {base : Nat} {s U : State} (hs : ∀ w ∈ sp, rf_spk w = true) (hv : s.vm = U.vm) (h : rf_E sp str stt OH ad base s) : rf_E sp str stt OH ad base U :=
  ⟨fun w hw => rf_sp_same (hs w hw) hv (h.1 w hw), fun q hq => vk_R.same hv.symm (h.2.1 q hq), fun q hq => va_Z.moved (by rw [hv]; exact Vm.Alike.refl _) (h.2.2 q hq)⟩
def rf_ws (cx : rf_C) (tb : List Cond) (i : Nat) : List Cond := Cond.code (cx.2.1 i).1 (cx.2.1 i).2.1 (cx.2.1 i).2.2.1 (cx.2.1 i).2.2.2 :: tb
/-- a method that may be called -/
def rf_mo (cx : rf_C) (tb : List Cond) (np j : Nat) : Prop := Cond.code (cx.2.1 j).1 (cx.2.1 j).2.1 (cx.2.1 j).2.2.1 (cx.2.1 j).2.2.2 ∈ tb ∧ plainName (cx.2.1 j).1.cls = true ∧ ((cx.2.1 j).1.cls ≠ "java/lang/invoke/MethodHandle" ∧ (cx.2.1 j).1.cls ≠ "java/lang/invoke/VarHandle") ∧ (parseMethodDescriptor (cx.2.1 j).1.desc).map (fun d => d.parameters.length) = some np ∧ Cond.initialized (cx.2.1 j).1.cls ∈ tb
def rf_nm (cx : rf_C) (ocl : List vw_C) (z : Int) : Option String := if 0 ≤ z then (cx.2.2.2.1[z.toNat]?).map (fun q => q.1) else (ocl[(-z - 1).toNat]?).map (fun q => q.1)
/-- what a table of code says of its calls -/
def rf_wc (cx : rf_C) (ocl : List vw_C) (tb sp : List Cond) (own : String) (I : Instr) (aux : List (Int × Nat)) : Prop := match aux with
  | [] => False
  | q0 :: tg => match I with
    | .invokevirtual idx => ∀ q ∈ tg, rf_mo cx tb q0.2 q.2 ∧ Cond.instanceMethod (cx.2.1 q.2).1 ∈ tb ∧ ∃ C : String, rf_nm cx ocl q.1 = some C ∧
        ((Cond.methodLink own idx (cx.2.1 q.2).1 ∈ tb ∧ Cond.selects C (cx.2.1 q.2).1 (cx.2.1 q.2).1 ∈ tb) ∨
         (∃ (x : MethodName) (owner : String), Cond.methodLink own idx x ∈ tb ∧ Cond.sameMethod x.cls owner x.name x.desc ∈ tb ∧ (owner ≠ "java/lang/invoke/MethodHandle" ∧ owner ≠ "java/lang/invoke/VarHandle") ∧ Cond.declares ⟨owner, x.name, x.desc⟩ ∈ sp ∧ Cond.selects C x (cx.2.1 q.2).1 ∈ tb ∧ x.desc = (cx.2.1 q.2).1.desc) ∨
         (∃ host : String, Cond.methodLinkNest own idx (cx.2.1 q.2).1 host ∈ sp ∧ Cond.selects C (cx.2.1 q.2).1 (cx.2.1 q.2).1 ∈ tb))
    | .invokespecial idx => ∀ q ∈ tg, rf_mo cx tb q0.2 q.2 ∧ Cond.instanceMethod (cx.2.1 q.2).1 ∈ tb ∧ (cx.2.1 q.2).1.name = "<init>" ∧ (cx.2.1 q.2).2.2.2 = none ∧ (Cond.methodLink own idx (cx.2.1 q.2).1 ∈ tb ∨ ∃ host : String, Cond.methodLinkNest own idx (cx.2.1 q.2).1 host ∈ sp)
    | .invokestatic idx => ∀ q ∈ tg, rf_mo cx tb q0.2 q.2 ∧ Cond.static (cx.2.1 q.2).1 ∈ tb ∧ (Cond.methodLink own idx (cx.2.1 q.2).1 ∈ tb ∨ ∃ host : String, Cond.methodLinkNest own idx (cx.2.1 q.2).1 host ∈ sp)
    | _ => True
/-- what a table of code says of its constants -/
def rf_wp (tb : List Cond) (str : List (String × Nat × String × Nat)) (stt : List (String × String × String × Value)) (own : String) (I : Instr) (aux : List (Int × Nat)) : Prop := match aux, I with
  | [(0, k)], .ldc idx => Cond.constant own idx (Int32.ofNat k) ∈ tb
  | [(1, k)], .ldc2_w idx => Cond.constantLong own idx (Int64.ofNat k) ∈ tb
  | [(2, a)], .ldc idx => ∃ tx : String, (own, idx, tx, a) ∈ str
  | [(0, k)], .getstatic idx => ∃ C n d : String, (C, n, d, Value.int (Int32.ofNat k)) ∈ stt ∧ Cond.fieldLink own idx C n d ∈ tb
  | [(2, a)], .getstatic idx => ∃ C n d : String, (C, n, d, Value.ref a) ∈ stt ∧ Cond.fieldLink own idx C n d ∈ tb
  | [(3, _)], .getstatic idx => ∃ C n d : String, (C, n, d, Value.null) ∈ stt ∧ Cond.fieldLink own idx C n d ∈ tb
  | _, _ => False
def rf_iw (I : Instr) : Bool := match I with
  | .tableswitch _ _ _ _ => true
  | .lookupswitch _ _ => true
  | _ => false
/-- a table of code is right -/
def rf_wf (cx : rf_C) (ocl : List vw_C) (tb sp : List Cond) (str : List (String × Nat × String × Nat)) (stt : List (String × String × String × Value)) (i pc : Nat) (I : rf_I) : Prop :=
  (∃ len : Nat, decode (cx.2.1 i).2.1 pc = .ok (I.1, len) ∧ (rf_iw I.1 = true ∨ len = rf_len I.1)) ∧
  match rf_kd I.1 with
  | 3 => rf_wb I.1 I.2 pc = true
  | 4 => rf_wlk cx ocl tb sp (cx.2.1 i).1.cls (cx.2.1 i).1.name I.1 I.2
  | 5 => if 10 ≤ (I.2.headD (0, 0)).1 then ∃ idx : Nat, (((I.2.headD (0, 0)).1 = 10 ∧ I.1 = .invokespecial idx) ∨ ((I.2.headD (0, 0)).1 ≠ 10 ∧ I.1 = .invokestatic idx)) ∧ rf_wi8 tb (cx.2.1 i).1.cls idx (I.2.headD (0, 0)).1 else rf_wc cx ocl tb sp (cx.2.1 i).1.cls I.1 I.2
  | 7 => rf_wp tb str stt (cx.2.1 i).1.cls I.1 I.2
  | _ => True
theorem rf_args_map (ad : Nat → Nat) : ∀ (vs : List Value) (k : Nat), lv_args k (vs.map (rf_cv ad)) = (lv_args k vs).map (fun q => (q.1, rf_cv ad q.2)) := by
  intro vs
  induction vs with
  | nil => intro k; rfl
  | cons v t ih =>
    intro k
    show (k, rf_cv ad v) :: lv_args (if (rf_cv ad v).category = 2 then k + 2 else k + 1) (t.map (rf_cv ad)) = _
    rw [rf_cat, ih]
    rfl
theorem rf_sl_map (ad : Nat → Nat) (vs : List Value) : (lg_sl (vs.map (rf_cv ad))).length = (lg_sl vs).length := by
  induction vs with
  | nil => rfl
  | cons v t ih =>
    simp only [lg_sl, List.map_cons, List.flatMap_cons, List.length_append] at ih ⊢
    rw [ih, rf_cat]
    by_cases hc : v.category = 2 <;> simp [hc]
theorem rf_hp_mono {cx : rf_C} {I : Instr} {aux : List (Int × Nat)} {st : List Value} {h : rf_H} {q' : List Value × rf_H} (he : rf_hp cx I aux st h = some q') : h.2.2.1 ≤ q'.2.2.2.1 ∧ h.2.2.2 ≤ q'.2.2.2.2 := by
  unfold rf_hp at he
  repeat' split at he
  all_goals first
    | (cases he; done)
    | (cases he; exact ⟨Nat.le_refl _, Nat.le_refl _⟩)
    | (cases he; exact ⟨Nat.le_succ _, Nat.le_add_right _ _⟩)
theorem rf_bi_same {cx : rf_C} {kd : Int} {d : Nat × Nat} {st : List Value} {h : rf_H} {q' : List Value × rf_H} (he : rf_bi cx kd d st h = some q') : q'.2.2 = h.2 := by
  unfold rf_bi at he
  repeat' split at he
  all_goals first
    | (cases he; done)
    | (cases he; rfl)
/-! THE REFLECTION IS TRUE: by induction on the fuel -/
def rf_Pc (cx : rf_C) (ocl : List vw_C) (OH : Heap) (sp : List Cond) (str : List (String × Nat × String × Nat)) (stt : List (String × String × String × Value)) (D : va_G) (ad : Nat → Nat) (base : Nat) (as : List Value) (h : rf_H) : Array Value → State → Prop := fun v U => v = (as.map (rf_cv ad)).toArray ∧ rf_R ocl OH D cx ad base U U.heap h ∧ va_K D cx.2.2.2.1 [] U ∧ rf_E sp str stt OH ad base U
def rf_Qc (cx : rf_C) (ocl : List vw_C) (OH : Heap) (D : va_G) (ad : Nat → Nat) (base : Nat) (r : Option Value) (h : rf_H) : Array Value → State → Outcome → State → Prop := fun _ _ oc t => oc = .returned (r.map (rf_cv ad)) ∧ rf_R ocl OH D cx ad base t t.heap h
/-- what is proved of all runs of at most n steps -/
def rf_P (l : Launch) (cx : rf_C) (ocl : List vw_C) (OH : Heap) (tb sp : List Cond) (str : List (String × Nat × String × Nat)) (stt : List (String × String × String × Value)) (D : va_G) (ad : Nat → Nat) (base : Nat) (n : Nat) : Prop :=
  ∀ (d : Nat × Nat) (i pc : Nat) (lsA : rf_L) (st : List Value) (h : rf_H) (r : Option Value) (hF : rf_H), rf_ev cx n d i pc lsA st h = some (r, hF) →
    (h.2.2.1 ≤ hF.2.2.1 ∧ h.2.2.2 ≤ hF.2.2.2) ∧
    ∀ (p : Program) (e : Env) (R : Room) (s : State) (m : MethodId) (args : Array Value) (below : List Frame) (meth : Method) (c : Code) (H : Heap) (locs : List Loc) (cells slots : Nat) (Q : State → Prop) (lsM : Array Slot),
      p.tables.exec = Jvm.exec → c.code = (cx.2.1 i).2.1 → c.maxLocals = (cx.2.1 i).2.2.1 → s.vm.findClass (cx.2.1 i).1.cls = some m.cls → ((cx.2.1 i).1.name = "<init>" → meth.name = "<init>") → (∀ w ∈ tb, w.before args s = true) → rf_E sp str stt OH ad base s → va_K D cx.2.2.2.1 [] s →
      rf_R ocl OH D cx ad base s H h → (∀ q ∈ locs, base ≤ q.base) → lv_has lsM (cx.2.1 i).2.2.1 (lsA.map (fun q => (q.1, rf_cv ad q.2))) →
      d.1 ≤ R.frames → d.2 ≤ R.locals → cells + (hF.2.2.1 - h.2.2.1) ≤ R.cells → slots + (hF.2.2.2 - h.2.2.2) ≤ R.slots →
      (∀ (pcR : Nat) (IR : Instr) (HR : Heap) (locsR : List Loc) (lsR : Array Slot) (stR : List Value), decode (cx.2.1 i).2.1 pcR = .ok (IR, 1) → rf_rt IR (cx.2.1 i).2.2.2 stR = some r → rf_R ocl OH D cx ad base s HR hF → (∀ q ∈ locsR, base ≤ q.base) → W p l e R s m args below meth c HR locsR (cells + (hF.2.2.1 - h.2.2.1)) (slots + (hF.2.2.2 - h.2.2.2)) Q (F0 m pcR lsR (stR.map (rf_cv ad)))) →
      W p l e R s m args below meth c H locs cells slots Q (F0 m pc lsM (st.map (rf_cv ad)))
theorem rf_l0 {I : Instr} (h : rf_kd I = 0) : rf_len I = 1 := by cases I <;> first | rfl | (simp [rf_kd] at h)
theorem rf_l6 {I : Instr} (h : rf_kd I = 6) : rf_len I = 1 := by cases I <;> first | rfl | (simp [rf_kd] at h)
theorem rf_lw {I : Instr} (h : rf_kd I ≠ 3) : rf_iw I = false := by cases I <;> first | rfl | (exact absurd rfl h)
theorem rf_l3 {I : Instr} (h : rf_iw I = true) : (∃ a b c d, I = .tableswitch a b c d) ∨ ∃ a b, I = .lookupswitch a b := by
  cases I <;> first | exact Or.inl ⟨_, _, _, _, rfl⟩ | exact Or.inr ⟨_, _, rfl⟩ | (simp [rf_iw] at h)
section RFC
variable {p : Program} {l : Launch} {e : Env} {R : Room} {s : State} {m : MethodId} {args : Array Value} {below : List Frame} {meth : Method} {c : Code} {H : Heap} {locs : List Loc} {cells slots : Nat} {Q : State → Prop}
variable {pc : Nat} {lsM : Array Slot} {D : va_G} {cx : rf_C} {ad : Nat → Nat} {base : Nat} {ocl : List vw_C} {OH : Heap} {tb sp : List Cond} {str : List (String × Nat × String × Nat)} {stt : List (String × String × String × Value)} {own : String} {h : rf_H}
/-- behind a call -/
theorem rf_cont {mc ms : Nat} {stM restM : List Value} {a : Array Value} {r : Option Value} {h' : rf_H} (hrun : va_Run p l e R s m args below meth c H locs cells slots mc ms (F0 m pc lsM stM) restM (rf_Qc cx ocl OH D ad base r h' a) (fun q => base ≤ q)) (hloc : ∀ q ∈ locs, base ≤ q.base)
    (kk : ∀ (H' : Heap) (locs' : List Loc), rf_R ocl OH D cx ad base s H' h' → (∀ q ∈ locs', base ≤ q.base) → W p l e R s m args below meth c H' locs' (cells + mc) (slots + ms) Q (F0 m (pc + 3) lsM ((r.map (rf_cv ad)).toList ++ restM))) : W p l e R s m args below meth c H locs cells slots Q (F0 m pc lsM stM) := by
  intro T hT X
  obtain ⟨v, st₀, t, T', L, h0, X', hL, e1, e2, ⟨hv, hR'⟩, st⟩ := hrun T hT X
  have hv2 : v = r.map (rf_cv ad) := by injection hv
  subst hv2
  obtain ⟨t2, a1, b1⟩ := kk T'.heap (locs ++ L) (by
      rw [e1]
      exact hR'.moved (by rw [← e2]; exact X'.warmed.alike.symm)) (fun q hq => by
      rcases List.mem_append.mp hq with z | z
      · exact hloc q z
      · exact hL q z) T' rfl X'
  exact ⟨t2, st t2 a1, b1⟩
theorem rf_blind (hspk : ∀ w ∈ sp, rf_spk w = true) (as : List Value) : FrameBlind (rf_Pc cx ocl OH sp str stt D ad base as h) := by
  intro a U g mk hp
  obtain ⟨h1, h2, h3, h4⟩ := hp
  exact ⟨h1, rf_R.moved (u := U) (U := U.calling g mk a) (Vm.Alike.refl U.vm) h2, va_K.moved (u := U) (U := U.calling g mk a) (Vm.Alike.refl U.vm) h3, rf_E.same (s := U) (U := U.calling g mk a) hspk rfl h4⟩
theorem rf_pre (hspk : ∀ w ∈ sp, rf_spk w = true) (as : List Value) (hR : rf_R ocl OH D cx ad base s H h) (hK : va_K D cx.2.2.2.1 [] s) (hE : rf_E sp str stt OH ad base s) : ∀ U : State, U.heap = H → s.WarmedH U.vm → rf_Pc cx ocl OH sp str stt D ad base as h (as.map (rf_cv ad)).toArray U := by
  intro U hU hW
  exact ⟨rfl, by rw [hU]; exact hR.moved hW.alike, va_K.moved hW.alike hK, hE.warm hspk hW⟩
theorem rf_recv (hK : va_K D cx.2.2.2.1 [] s) (hR : rf_R ocl OH D cx ad base s H h) {a ci : Nat} (hob : rf_ob h a = some ci) {C : String} (hC : rf_nm cx ocl (rf_ky cx.2.2.2.2 a ci) = some C) : ∃ cell : Cell, H[ad a]? = some cell ∧ cell.vm.isStatics = false ∧ s.vm.findClass C = some cell.cls := by
  obtain ⟨hap, ha, hsh⟩ := rf_ob_ok hob
  unfold rf_nm rf_ky at hC
  by_cases ha1 : a < cx.2.2.2.2
  · rw [if_pos ha1, if_neg (by omega)] at hC
    rw [show (-(-(ci : Int) - 1) - 1).toNat = ci by omega] at hC
    have hq := hR.2.1 a hap ha1
    rw [hsh] at hq
    obtain ⟨r, hr, ⟨cell, q1, q2, q3⟩, -⟩ := hq
    rw [hr] at hC
    have : r.1 = C := Option.some.inj hC
    subst this
    exact ⟨cell, q1, q2, q3⟩
  · rw [if_neg ha1, if_pos (Int.natCast_nonneg ci)] at hC
    have hq := hR.1 a (Nat.not_lt.mp ha1) ha
    rw [hsh] at hq
    obtain ⟨r, hr, cell, q1, q2, q3, -⟩ := hq
    simp only [Int.toNat_natCast] at hC
    rw [hr] at hC
    have : r.1 = C := Option.some.inj hC
    subst this
    exact ⟨cell, q1, by rw [q3]; rfl, by rw [q2]; exact (hK.1 ci r hr).2.1⟩
set_option maxHeartbeats 4000000 in
/-- the end of a method -/
theorem rf_rt_ok {cc : ByteArray} (ad : Nat → Nat) {Qc : Array Value → State → Outcome → State → Prop} {free : Addr → Prop} {ret : Option FieldType} {I : Instr} {st : List Value} {r : Option Value} (hx : p.tables.exec = Jvm.exec) (hb : c.code = cc) (hr : meth.sig.returnType = ret) (hlocks : meth.locks = false) (hrt : rf_rt I ret st = some r) (hd : decode cc pc = .ok (I, 1))
    (hq : ∀ t : State, t.heap = H → s.WarmedH t.vm → Qc args s (.returned (r.map (rf_cv ad))) t) (hf : ∀ q ∈ locs, free q.base) : W p l e R s m args below meth c H locs cells slots (MQ below Qc args s cells slots free) (F0 m pc lsM (st.map (rf_cv ad))) := by
  unfold rf_rt at hrt
  split at hrt
  · cases hrt; exact W.iret (hlocks := hlocks) hx hb hr hq hf hd
  · split at hrt
    · rename_i hn; cases hrt; exact W.zret (hlocks := hlocks) hx hb hr hn hq hf hd
    · cases hrt
  · split at hrt
    · rename_i hn; cases hrt; exact W.zret (hlocks := hlocks) hx hb hr hn hq hf hd
    · cases hrt
  · split at hrt
    · rename_i hn; cases hrt; exact W.zret (hlocks := hlocks) hx hb hr hn hq hf hd
    · cases hrt
  · split at hrt
    · rename_i hn; cases hrt; exact W.zret (hlocks := hlocks) hx hb hr hn hq hf hd
    · cases hrt
  · cases hrt; exact W.lret (hlocks := hlocks) hx hb hr hq hf hd
  · cases hrt; exact W.aret (hlocks := hlocks) hx hb hr (Or.inl ⟨_, rfl⟩) (Or.inr ⟨_, rfl⟩) hq hf hd
  · cases hrt; exact W.aret (hlocks := hlocks) hx hb hr (Or.inl ⟨_, rfl⟩) (Or.inl rfl) hq hf hd
  · cases hrt; exact W.aret (hlocks := hlocks) hx hb hr (Or.inr ⟨_, rfl⟩) (Or.inr ⟨_, rfl⟩) hq hf hd
  · cases hrt; exact W.aret (hlocks := hlocks) hx hb hr (Or.inr ⟨_, rfl⟩) (Or.inl rfl) hq hf hd
  · cases hrt; exact W.vret (hlocks := hlocks) hx hb hr hq hf hd
  · cases hrt
end RFC
set_option maxHeartbeats 4000000 in
/-- a contract of a method out of the runs of the evaluator -/
theorem rf_met {l : Launch} {cx : rf_C} {ocl : List vw_C} {OH : Heap} {tb sp : List Cond} {str : List (String × Nat × String × Nat)} {stt : List (String × String × String × Value)} {D : va_G} {ad : Nat → Nat} {base n : Nat} (hP : rf_P l cx ocl OH tb sp str stt D ad base n)
    {d : Nat × Nat} {j : Nat} {as : List Value} {h h' : rf_H} {r : Option Value} (he : rf_ev cx n d j 0 (lv_args 0 as) [] h = some (r, h')) (hsl : (lg_sl as).length ≤ (cx.2.1 j).2.2.1) (hpl : plainName (cx.2.1 j).1.cls = true) :
    Met l (cx.2.1 j).1 (rf_ws cx tb j) ({ frames := d.1, cells := h'.2.2.1 - h.2.2.1, slots := h'.2.2.2 - h.2.2.2, locals := d.2 }) (rf_Pc cx ocl OH sp str stt D ad base as h) (rf_Qc cx ocl OH D ad base r h') (h'.2.2.1 - h.2.2.1) (h'.2.2.2 - h.2.2.2) (fun q => base ≤ q) := by
  refine Met.ofW (cc := (cx.2.1 j).2.1) (maxL := (cx.2.1 j).2.2.1) (ret := (cx.2.1 j).2.2.2) hpl rfl ?_
  intro p e s m args below meth c s₁ B hml hv
  obtain ⟨rfl, hR, hK, hE⟩ := hv
  have hts := atoms_spec (ws := rf_ws cx tb j) B.pre
  have hl := lv_entry (as.map (rf_cv ad)) (n := (cx.2.1 j).2.2.1) (by rw [rf_sl_map]; exact hsl)
  rw [rf_args_map] at hl
  rw [lg_entry_eq]
  obtain ⟨-, hW⟩ := hP d j 0 (lv_args 0 as) [] h r h' he
  have hlocks := B.notSynchronized
  refine hW p e _ s m _ below meth c s.heap [] 0 0 _ _ B.exec B.bytes hml (findClass_of_methodNamed B.named) (fun z => (name_of_methodNamed B.named B.method).1.trans z) (fun w hw => hts w (List.mem_cons_of_mem _ hw)) hE hK hR (fun q hq => by cases hq) hl (Nat.le_refl _) (Nat.le_refl _) (by rw [Nat.zero_add]; exact Nat.le_refl _) (by rw [Nat.zero_add]; exact Nat.le_refl _) ?_
  intro pcR IR HR locsR lsR stR hd hrt hRR hloc
  rw [Nat.zero_add, Nat.zero_add]
  have hq : ∀ t : State, t.heap = HR → s.WarmedH t.vm → rf_Qc cx ocl OH D ad base r h' (as.map (rf_cv ad)).toArray s (.returned (r.map (rf_cv ad))) t := fun t ht hW => ⟨rfl, by rw [ht]; exact hRR.moved hW.alike⟩
  exact rf_rt_ok ad B.exec B.bytes B.returns hlocks hrt hd hq hloc
/-- the calls of a table of code, run by the machine -/
theorem rf_ca_ok {p : Program} {l : Launch} {e : Env} {R : Room} {s : State} {m : MethodId} {args : Array Value} {below : List Frame} {meth : Method} {c : Code} {H : Heap} {locs : List Loc} {cells slots : Nat} {Q : State → Prop} {pc : Nat} {lsM : Array Slot} {D : va_G} {cx : rf_C} {ad : Nat → Nat} {base : Nat} {ocl : List vw_C} {OH : Heap} {tb sp : List Cond} {str : List (String × Nat × String × Nat)} {stt : List (String × String × String × Value)} {own : String} {h h' : rf_H} {cc : ByteArray} {nL : Nat}
    (hx : p.tables.exec = Jvm.exec) (hb : c.code = cc) (hml : c.maxLocals = nL) (hlz : lsM.size = nL) (hown : s.vm.findClass own = some m.cls) (hts : ∀ w ∈ tb, w.before args s = true) (hgood : ∀ w ∈ tb, (w.onTables && w.keeps) = true ∨ ∃ ty, w = .arrayClass ty) (hspk : ∀ w ∈ sp, rf_spk w = true) (hE : rf_E sp str stt OH ad base s) (hK : va_K D cx.2.2.2.1 [] s) (hR : rf_R ocl OH D cx ad base s H h) (hloc : ∀ q ∈ locs, base ≤ q.base)
    {I : Instr} {aux : List (Int × Nat)} {st : List Value} {q : Nat × List Value × List Value} (hca : rf_ca cx I aux st h = some q) (hwc : rf_wc cx ocl tb sp own I aux) (hd : decode cc pc = .ok (I, 3)) {rm : Room} {r : Option Value} {mc ms : Nat} (hrc : rm.cells = mc) (hrs : rm.slots = ms)
    (hM : plainName (cx.2.1 q.1).1.cls = true → Met l (cx.2.1 q.1).1 (rf_ws cx tb q.1) rm (rf_Pc cx ocl OH sp str stt D ad base q.2.1 h) (rf_Qc cx ocl OH D ad base r h') mc ms (fun q => base ≤ q)) (hfr : rm.frames + 1 ≤ R.frames) (hlo : 8 + ((cx.2.1 q.1).2.2.1 + 11) + rm.locals ≤ R.locals) (hf : cells + mc ≤ R.cells ∧ slots + ms ≤ R.slots)
    (kk : ∀ (H' : Heap) (locs' : List Loc), rf_R ocl OH D cx ad base s H' h' → (∀ q ∈ locs', base ≤ q.base) → W p l e R s m args below meth c H' locs' (cells + mc) (slots + ms) Q (F0 m (pc + 3) lsM ((r.toList ++ q.2.2).map (rf_cv ad)))) : W p l e R s m args below meth c H locs cells slots Q (F0 m pc lsM (st.map (rf_cv ad))) := by
  have kk2 : ∀ (H' : Heap) (locs' : List Loc), rf_R ocl OH D cx ad base s H' h' → (∀ q ∈ locs', base ≤ q.base) → W p l e R s m args below meth c H' locs' (cells + mc) (slots + ms) Q (F0 m (pc + 3) lsM ((r.map (rf_cv ad)).toList ++ q.2.2.map (rf_cv ad))) := by
    intro H' locs' h1 h2
    have h3 := kk H' locs' h1 h2
    have h4 : (r.toList ++ q.2.2).map (rf_cv ad) = (r.map (rf_cv ad)).toList ++ q.2.2.map (rf_cv ad) := by cases r <;> simp
    rw [h4] at h3
    exact h3
  have hfix : CallFix p m c cc nL s args tb own := ⟨hx, hb, hml, hown, hts⟩
  have hgi : ∀ j : Nat, Cond.code (cx.2.1 j).1 (cx.2.1 j).2.1 (cx.2.1 j).2.2.1 (cx.2.1 j).2.2.2 ∈ tb → GoodIn tb (rf_ws cx tb j) := by
    intro j hj w hw
    rcases List.mem_cons.mp hw with z | z
    · subst z; exact ⟨hj, hgood _ hj⟩
    · exact ⟨z, hgood _ z⟩
  unfold rf_ca at hca
  split at hca
  · rename_i q0 tg
    split at hca
    · -- invokevirtual
      rename_i idx a rr heq
      split at hca
      · rename_i ci hob
        split at hca
        · rename_i j hlk
          split at hca
          · rename_i hc
            cases hca
            obtain ⟨⟨m1, m2, m3, m4, m5⟩, hin, C, hC, hlink⟩ := hwc _ (rf_lk_ok hlk)
            have hlen : ((st.take q0.2).reverse.map (rf_cv ad)).length = q0.2 := by simp [Nat.min_eq_left hc.1]
            have hst : st.map (rf_cv ad) = ((st.take q0.2).reverse.map (rf_cv ad)).reverse ++ .ref (ad a) :: rr.map (rf_cv ad) := by
              have h5 := List.take_append_drop q0.2 st
              rw [heq] at h5
              rw [← List.map_reverse, List.reverse_reverse]
              conv => lhs; rw [← h5]
              simp [rf_cv]
            have hrec := rf_recv hK hR hob hC
            have hpv : PreV s H C (ad a) (rf_Pc cx ocl OH sp str stt D ad base (.ref a :: (st.take q0.2).reverse) h) ((st.take q0.2).reverse.map (rf_cv ad)) := ⟨rf_blind hspk _, hrec, fun U hU hW => rf_pre hspk (.ref a :: (st.take q0.2).reverse) hR hK hE U hU hW⟩
            have hcat : 2 * (F0 m pc lsM (st.map (rf_cv ad))).monitorRoom + ((rr.map (rf_cv ad)).map fun v => v.category).sum ≤ 8 := lv_room (by rw [rf_cats]; exact hc.2)
            rcases hlink with ⟨h6, h7⟩ | ⟨x, owner, h6, h7, h8, h9, h10, h11⟩ | ⟨host, h6, h7⟩
            · exact rf_cont (va_runV hfix (hM m2) ⟨callB_of q0.2 hts (hgi j m1) rfl hrc hrs (hts _ m5) (hts _ h6) ⟨m3.1, m3.2, m4⟩ ⟨hfr, hlo⟩, hts _ hin, hts _ h7⟩ hpv rfl hlen hlz hst hcat hd hf) hloc kk2
            · refine rf_cont (va_runU (x := x) (owner := owner) hfix (hM m2) ⟨⟨hrc, hrs, hfr, hlo, pay_in hts (hgi j m1), List.mem_cons_self⟩, hts _ m1, hts _ m5, h8, fun sig hs => ?_, hts _ h6, hts _ h7, va_Decl.abs (hE.1 _ h9), hts _ h10, hts _ hin⟩ hpv rfl hlen hlz hst hcat hd hf) hloc kk2
              rw [h11] at hs
              rw [hs] at m4
              exact (Option.some.inj m4).symm
            · refine rf_cont (va_runVN (host := host) hfix (hM m2) ⟨⟨⟨hrc, hrs, hfr, hlo, pay_in hts (hgi j m1), List.mem_cons_self⟩, hts _ m1, hts _ m5, m3, fun sig hs => ?_, va_Nw.use rfl (hE.1 _ h6)⟩, hts _ hin, hts _ h7⟩ hpv rfl hlen hlz hst hcat hd hf) hloc kk2
              rw [hs] at m4
              exact (Option.some.inj m4).symm
          · cases hca
        · cases hca
      · cases hca
    · -- invokespecial
      rename_i idx a rr heq
      split at hca
      · rename_i z0 j
        split at hca
        · rename_i hc
          cases hca
          obtain ⟨⟨m1, m2, m3, m4, m5⟩, hin, hnm, hrt, hlink⟩ := hwc (z0, j) (List.mem_singleton.mpr rfl)
          have hlen : ((st.take q0.2).reverse.map (rf_cv ad)).length = q0.2 := by simp [Nat.min_eq_left hc.1]
          have hst : st.map (rf_cv ad) = ((st.take q0.2).reverse.map (rf_cv ad)).reverse ++ .ref (ad a) :: rr.map (rf_cv ad) := by
            have h5 := List.take_append_drop q0.2 st
            rw [heq] at h5
            rw [← List.map_reverse, List.reverse_reverse]
            conv => lhs; rw [← h5]
            simp [rf_cv]
          have hpv : PreS s H (rf_Pc cx ocl OH sp str stt D ad base (.ref a :: (st.take q0.2).reverse) h) (.ref (ad a) :: (st.take q0.2).reverse.map (rf_cv ad)) := ⟨rf_blind hspk _, fun U hU hW => rf_pre hspk (.ref a :: (st.take q0.2).reverse) hR hK hE U hU hW⟩
          have hcat : 2 * (F0 m pc lsM (st.map (rf_cv ad))).monitorRoom + ((rr.map (rf_cv ad)).map fun v => v.category).sum ≤ 8 := lv_room (by rw [rf_cats]; exact hc.2)
          have hw0 : rf_ws cx tb j = Cond.code (cx.2.1 j).1 (cx.2.1 j).2.1 (cx.2.1 j).2.2.1 none :: tb := by unfold rf_ws; rw [hrt]
          rcases hlink with h6 | ⟨host, h6⟩
          · exact rf_cont (va_runI hfix (hM m2) ⟨callB_of q0.2 hts (hgi j m1) hw0 hrc hrs (hts _ m5) (hts _ h6) ⟨m3.1, m3.2, m4⟩ ⟨hfr, hlo⟩, hnm, hts _ hin⟩ hpv rfl hlen hlz hst hcat hd hf) hloc kk2
          · refine rf_cont (va_runIN (host := host) hfix (hM m2) ⟨⟨⟨hrc, hrs, hfr, hlo, pay_in hts (hgi j m1), by rw [hw0]; exact List.mem_cons_self⟩, by rw [hrt] at m1; exact hts _ m1, hts _ m5, m3, fun sig hs => ?_, va_Nw.use rfl (hE.1 _ h6)⟩, hnm, hts _ hin⟩ hpv rfl hlen hlz hst hcat hd hf) hloc kk2
            rw [hs] at m4
            exact (Option.some.inj m4).symm
        · cases hca
      · cases hca
    · -- invokestatic
      rename_i idx
      split at hca
      · rename_i z0 j
        split at hca
        · rename_i hc
          cases hca
          obtain ⟨⟨m1, m2, m3, m4, m5⟩, hstat, hlink⟩ := hwc (z0, j) (List.mem_singleton.mpr rfl)
          have hlen : ((st.take q0.2).reverse.map (rf_cv ad)).length = q0.2 := by simp [Nat.min_eq_left hc.1]
          have hst : st.map (rf_cv ad) = ((st.take q0.2).reverse.map (rf_cv ad)).reverse ++ (st.drop q0.2).map (rf_cv ad) := by
            have h5 := List.take_append_drop q0.2 st
            rw [← List.map_reverse, List.reverse_reverse]
            conv => lhs; rw [← h5]
            simp
          have hpv : PreS s H (rf_Pc cx ocl OH sp str stt D ad base (st.take q0.2).reverse h) ((st.take q0.2).reverse.map (rf_cv ad)) := ⟨rf_blind hspk _, fun U hU hW => rf_pre hspk (st.take q0.2).reverse hR hK hE U hU hW⟩
          have hcat : 2 * (F0 m pc lsM (st.map (rf_cv ad))).monitorRoom + (((st.drop q0.2).map (rf_cv ad)).map fun v => v.category).sum ≤ 8 := lv_room (by rw [rf_cats]; exact hc.2)
          rcases hlink with h6 | ⟨host, h6⟩
          · exact rf_cont (va_runS hfix (hM m2) ⟨callB_of q0.2 hts (hgi j m1) rfl hrc hrs (hts _ m5) (hts _ h6) ⟨m3.1, m3.2, m4⟩ ⟨hfr, hlo⟩, hts _ hstat⟩ hpv rfl hlen hlz hst hcat hd hf) hloc kk2
          · refine rf_cont (va_runSN (host := host) hfix (hM m2) ⟨⟨⟨hrc, hrs, hfr, hlo, pay_in hts (hgi j m1), List.mem_cons_self⟩, hts _ m1, hts _ m5, m3, fun sig hs => ?_, va_Nw.use rfl (hE.1 _ h6)⟩, hts _ hstat, trivial⟩ hpv rfl hlen hlz hst hcat hd hf) hloc kk2
            rw [hs] at m4
            exact (Option.some.inj m4).symm
        · cases hca
      · cases hca
    · cases hca
  · cases hca
/-- constants of the pool, run by the machine -/
theorem rf_po_ok {p : Program} {l : Launch} {e : Env} {R : Room} {s : State} {m : MethodId} {args : Array Value} {below : List Frame} {meth : Method} {c : Code} {H : Heap} {locs : List Loc} {cells slots : Nat} {Q : State → Prop} {pc : Nat} {lsM : Array Slot} {D : va_G} {cx : rf_C} {ad : Nat → Nat} {base : Nat} {ocl : List vw_C} {OH : Heap} {tb sp : List Cond} {str : List (String × Nat × String × Nat)} {stt : List (String × String × String × Value)} {own : String} {h : rf_H} {cc : ByteArray}
    (hx : p.tables.exec = Jvm.exec) (hb : c.code = cc) (hown : s.vm.findClass own = some m.cls) (hts : ∀ w ∈ tb, w.before args s = true) (hE : rf_E sp str stt OH ad base s) (hR : rf_R ocl OH D cx ad base s H h)
    {I : Instr} {aux : List (Int × Nat)} {st st' : List Value} (he : rf_po aux st = some st') (hwp : rf_wp tb str stt own I aux) (hd : decode cc pc = .ok (I, rf_len I))
    (kk : W p l e R s m args below meth c H locs cells slots Q (F0 m (pc + rf_len I) lsM (st'.map (rf_cv ad)))) : W p l e R s m args below meth c H locs cells slots Q (F0 m pc lsM (st.map (rf_cv ad))) := by
  unfold rf_wp at hwp
  split at hwp
  · simp only [rf_po] at he
    cases he
    exact lv_ldc hx hb hown (hts _ hwp) hd kk
  · simp only [rf_po] at he
    cases he
    exact lv_ldc2 hx hb hown (hts _ hwp) hd kk
  · simp only [rf_po] at he
    cases he
    obtain ⟨tx, h1⟩ := hwp
    exact va_ldcS hx hb hown (hE.2.1 _ h1) hd kk
  · simp only [rf_po] at he
    cases he
    obtain ⟨C, n, dd, h1, h2⟩ := hwp
    obtain ⟨cf, kf, fi, f, a, cell, g1, g2, g3, g4, g5, g6, g7, g8⟩ := hE.2.2 _ h1
    exact W.gets hx hb hown (hts _ h2) g1 g2 g3 g4 (by rw [hR.2.2.2.2 a (Nat.not_le.mp g8)]; exact g5) (fun z => by rw [z] at g6; cases g6) g7 rfl hd kk
  · simp only [rf_po] at he
    cases he
    obtain ⟨C, n, dd, h1, h2⟩ := hwp
    obtain ⟨cf, kf, fi, f, a, cell, g1, g2, g3, g4, g5, g6, g7, g8⟩ := hE.2.2 _ h1
    exact W.gets hx hb hown (hts _ h2) g1 g2 g3 g4 (by rw [hR.2.2.2.2 a (Nat.not_le.mp g8)]; exact g5) (fun z => by rw [z] at g6; cases g6) g7 rfl hd kk
  · simp only [rf_po] at he
    cases he
    obtain ⟨C, n, dd, h1, h2⟩ := hwp
    obtain ⟨cf, kf, fi, f, a, cell, g1, g2, g3, g4, g5, g6, g7, g8⟩ := hE.2.2 _ h1
    exact W.gets hx hb hown (hts _ h2) g1 g2 g3 g4 (by rw [hR.2.2.2.2 a (Nat.not_le.mp g8)]; exact g5) (fun z => by rw [z] at g6; cases g6) g7 rfl hd kk
  · exact hwp.elim
set_option maxHeartbeats 8000000 in
/-- THE REFLECTION IS TRUE -/
theorem rf_main {l : Launch} {cx : rf_C} {ocl : List vw_C} {OH : Heap} {tb sp : List Cond} {str : List (String × Nat × String × Nat)} {stt : List (String × String × String × Value)} {D : va_G} {ad : Nat → Nat} {base : Nat}
    (hwf : ∀ (i pc : Nat) (I : rf_I), cx.1 i pc = some I → rf_wf cx ocl tb sp str stt i pc I) (hG : rf_G cx tb) (hA : rf_A cx ad base) (hgood : ∀ w ∈ tb, (w.onTables && w.keeps) = true ∨ ∃ ty, w = .arrayClass ty) (hspk : ∀ w ∈ sp, rf_spk w = true) : ∀ n : Nat, rf_P l cx ocl OH tb sp str stt D ad base n := by
  intro n
  induction n with
  | zero =>
    intro d i pc lsA st h r hF he
    unfold rf_ev at he
    cases he
  | succ n ih =>
    intro d i pc lsA st h r hF he
    unfold rf_ev at he
    split at he
    · cases he
    rename_i I hI
    obtain ⟨⟨len, hdec, hlen⟩, hw⟩ := hwf i pc I hI
    have hdl : rf_kd I.1 ≠ 3 → decode (cx.2.1 i).2.1 pc = .ok (I.1, rf_len I.1) := by
      intro h3
      rcases hlen with z | z
      · rw [rf_lw h3] at z; cases z
      · rw [← z]; exact hdec
    split at he
    · cases he
    · -- a step
      rename_i q hex
      obtain ⟨mono, cont⟩ := ih d i q.1 q.2.1 q.2.2.1 q.2.2.2 r hF he
      unfold rf_ex at hex
      split at hex
      · rename_i hk
        obtain ⟨x, h1, h2⟩ := Option.map_eq_some_iff.mp hex
        have h2 := Sum.inl.inj h2
        subst h2
        refine ⟨mono, fun p e R s m args below meth c H locs cells slots Q lsM hx hb hml hown hnm hts hE hK hR hloc hl h8 h9 h10 h11 hret => ?_⟩
        have hd := hdl (by rw [hk]; decide)
        rw [rf_l0 hk] at hd
        exact rf_ar_ok hx hb ad h1 hd (cont p e R s m args below meth c H locs cells slots Q lsM hx hb hml hown hnm hts hE hK hR hloc hl h8 h9 h10 h11 hret)
      · rename_i hk
        obtain ⟨x, h1, h2⟩ := Option.map_eq_some_iff.mp hex
        have h2 := Sum.inl.inj h2
        subst h2
        refine ⟨mono, fun p e R s m args below meth c H locs cells slots Q lsM hx hb hml hown hnm hts hE hK hR hloc hl h8 h9 h10 h11 hret => ?_⟩
        have hd := hdl (by rw [hk]; decide)
        exact rf_lo_ok hx hb ad h1 hd hl (cont p e R s m args below meth c H locs cells slots Q lsM hx hb hml hown hnm hts hE hK hR hloc hl h8 h9 h10 h11 hret)
      · rename_i hk
        obtain ⟨x, h1, h2⟩ := Option.map_eq_some_iff.mp hex
        have h2 := Sum.inl.inj h2
        subst h2
        refine ⟨mono, fun p e R s m args below meth c H locs cells slots Q lsM hx hb hml hown hnm hts hE hK hR hloc hl h8 h9 h10 h11 hret => ?_⟩
        have hd := hdl (by rw [hk]; decide)
        exact rf_so_ok hx hb ad h1 hd hl (fun ls' hl' => cont p e R s m args below meth c H locs cells slots Q ls' hx hb hml hown hnm hts hE hK hR hloc hl' h8 h9 h10 h11 hret)
      · rename_i hk
        obtain ⟨x, h1, h2⟩ := Option.map_eq_some_iff.mp hex
        have h2 := Sum.inl.inj h2
        subst h2
        rw [hk] at hw
        refine ⟨mono, fun p e R s m args below meth c H locs cells slots Q lsM hx hb hml hown hnm hts hE hK hR hloc hl h8 h9 h10 h11 hret => ?_⟩
        refine rf_br_ok hx hb ad (fun x y z1 z2 z3 => hA.inj z1 z2 z3) h1 hdec ?_ hw (cont p e R s m args below meth c H locs cells slots Q lsM hx hb hml hown hnm hts hE hK hR hloc hl h8 h9 h10 h11 hret)
        rcases hlen with z | z
        · exact Or.inr (rf_l3 z)
        · exact Or.inl z
      · rename_i hk
        obtain ⟨x, h1, h2⟩ := Option.map_eq_some_iff.mp hex
        have h2 := Sum.inl.inj h2
        subst h2
        rw [hk] at hw
        obtain ⟨o1, o2⟩ := rf_hp_mono h1
        dsimp only at mono cont
        refine ⟨⟨Nat.le_trans o1 mono.1, Nat.le_trans o2 mono.2⟩, fun p e R s m args below meth c H locs cells slots Q lsM hx hb hml hown hnm hts hE hK hR hloc hl h8 h9 h10 h11 hret => ?_⟩
        have hd := hdl (by rw [hk]; decide)
        have e1 : cells + (x.2.2.2.1 - h.2.2.1) + (hF.2.2.1 - x.2.2.2.1) = cells + (hF.2.2.1 - h.2.2.1) := by have := mono.1; omega
        have e2 : slots + (x.2.2.2.2 - h.2.2.2) + (hF.2.2.2 - x.2.2.2.2) = slots + (hF.2.2.2 - h.2.2.2) := by have := mono.2; omega
        refine rf_hp_ok hx hb hts hE.1 hG hown hK hA hR hloc h1 hd hw hnm (by omega) (by omega) (fun H' locs' hR' hloc' => ?_)
        refine cont p e R s m args below meth c H' locs' _ _ Q lsM hx hb hml hown hnm hts hE hK hR' hloc' hl h8 h9 (by rw [e1]; exact h10) (by rw [e2]; exact h11) ?_
        rw [e1, e2]
        exact hret
      · rename_i hk
        rw [hk] at hw
        split at hex
        · rename_i h10k
          obtain ⟨x, h1, h2⟩ := Option.map_eq_some_iff.mp hex
          have h2 := Sum.inl.inj h2
          subst h2
          rw [if_pos h10k] at hw
          obtain ⟨idx, hI5, hw8⟩ := hw
          have o1 := rf_bi_same h1
          dsimp only at mono cont
          rw [o1] at mono cont
          refine ⟨mono, fun p e R s m args below meth c H locs cells slots Q lsM hx hb hml hown hnm hts hE hK hR hloc hl h8 h9 h10 h11 hret => ?_⟩
          have hd := hdl (by rw [hk]; decide)
          have hl3 : rf_len I.1 = 3 := by rcases hI5 with z | z <;> rw [z.2] <;> rfl
          rw [hl3] at hd
          exact (rf_bi_ok hx hb (hml.trans hl.1.symm) hts hown hA hR hloc h1 hI5 hd hw8 h8 h9 (by omega) (by omega) (fun H' locs' hR' hloc' => cont p e R s m args below meth c H' locs' cells slots Q lsM hx hb hml hown hnm hts hE hK hR' hloc' hl h8 h9 h10 h11 hret)).2
        · obtain ⟨x, h1, h2⟩ := Option.map_eq_some_iff.mp hex
          cases h2
      · obtain ⟨x, h1, h2⟩ := Option.map_eq_some_iff.mp hex
        cases h2
      · rename_i hk
        obtain ⟨x, h1, h2⟩ := Option.map_eq_some_iff.mp hex
        have h2 := Sum.inl.inj h2
        subst h2
        rw [hk] at hw
        refine ⟨mono, fun p e R s m args below meth c H locs cells slots Q lsM hx hb hml hown hnm hts hE hK hR hloc hl h8 h9 h10 h11 hret => ?_⟩
        have hd := hdl (by rw [hk]; decide)
        exact rf_po_ok hx hb hown hts hE hR h1 hw hd (cont p e R s m args below meth c H locs cells slots Q lsM hx hb hml hown hnm hts hE hK hR hloc hl h8 h9 h10 h11 hret)
      · cases hex
    · -- a call
      rename_i q hex
      split at he
      · rename_i hroom
        split at he
        · cases he
        · rename_i rr hcal
          obtain ⟨r1, h1'⟩ := rr
          dsimp only at he
          obtain ⟨mono, cont⟩ := ih d i (pc + 3) lsA (r1.toList ++ q.2.2) h1' r hF he
          obtain ⟨mono2, -⟩ := ih _ _ _ _ _ _ _ _ hcal
          have hmet := fun hpl => rf_met ih hcal hroom.2.2 hpl
          unfold rf_ex at hex
          split at hex
          · obtain ⟨x, h1, h2⟩ := Option.map_eq_some_iff.mp hex; cases h2
          · obtain ⟨x, h1, h2⟩ := Option.map_eq_some_iff.mp hex; cases h2
          · obtain ⟨x, h1, h2⟩ := Option.map_eq_some_iff.mp hex; cases h2
          · obtain ⟨x, h1, h2⟩ := Option.map_eq_some_iff.mp hex; cases h2
          · obtain ⟨x, h1, h2⟩ := Option.map_eq_some_iff.mp hex; cases h2
          · rename_i hk
            rw [hk] at hw
            split at hex
            · obtain ⟨x, h1, h2⟩ := Option.map_eq_some_iff.mp hex; cases h2
            · rename_i h10k
              rw [if_neg h10k] at hw
              obtain ⟨x, h1, h2⟩ := Option.map_eq_some_iff.mp hex
              have h2 := Sum.inl.inj (Sum.inr.inj h2)
              subst h2
              refine ⟨⟨Nat.le_trans mono2.1 mono.1, Nat.le_trans mono2.2 mono.2⟩, fun p e R s m args below meth c H locs cells slots Q lsM hx hb hml hown hnm hts hE hK hR hloc hl h8 h9 h10 h11 hret => ?_⟩
              have hd := hdl (by rw [hk]; decide)
              have hl3 : rf_len I.1 = 3 := by
                revert hk
                cases I.1 <;> first | (intro hk; rfl) | (intro hk; simp [rf_kd] at hk)
              rw [hl3] at hd
              have e1 : cells + (h1'.2.2.1 - h.2.2.1) + (hF.2.2.1 - h1'.2.2.1) = cells + (hF.2.2.1 - h.2.2.1) := by have := mono.1; have := mono2.1; omega
              have e2 : slots + (h1'.2.2.2 - h.2.2.2) + (hF.2.2.2 - h1'.2.2.2) = slots + (hF.2.2.2 - h.2.2.2) := by have := mono.2; have := mono2.2; omega
              refine rf_ca_ok hx hb hml hl.1 hown hts hgood hspk hE hK hR hloc h1 hw hd rfl rfl hmet (by show d.1 - 1 + 1 ≤ _; omega) (by show 8 + (_ + 11) + (d.2 - _) ≤ _; omega) ⟨by show cells + (h1'.2.2.1 - h.2.2.1) ≤ _; omega, by show slots + (h1'.2.2.2 - h.2.2.2) ≤ _; omega⟩ (fun H' locs' hR' hloc' => ?_)
              refine cont p e R s m args below meth c H' locs' _ _ Q lsM hx hb hml hown hnm hts hE hK hR' hloc' hl h8 h9 (by rw [e1]; exact h10) (by rw [e2]; exact h11) ?_
              rw [e1, e2]
              exact hret
          · obtain ⟨x, h1, h2⟩ := Option.map_eq_some_iff.mp hex; cases h2
          · obtain ⟨x, h1, h2⟩ := Option.map_eq_some_iff.mp hex; cases h2
          · cases hex
      · cases he
    · -- the end
      rename_i v hex
      cases he
      unfold rf_ex at hex
      split at hex
      · obtain ⟨x, h1, h2⟩ := Option.map_eq_some_iff.mp hex; cases h2
      · obtain ⟨x, h1, h2⟩ := Option.map_eq_some_iff.mp hex; cases h2
      · obtain ⟨x, h1, h2⟩ := Option.map_eq_some_iff.mp hex; cases h2
      · obtain ⟨x, h1, h2⟩ := Option.map_eq_some_iff.mp hex; cases h2
      · obtain ⟨x, h1, h2⟩ := Option.map_eq_some_iff.mp hex; cases h2
      · split at hex
        · obtain ⟨x, h1, h2⟩ := Option.map_eq_some_iff.mp hex; cases h2
        · obtain ⟨x, h1, h2⟩ := Option.map_eq_some_iff.mp hex; cases h2
      · rename_i hk
        obtain ⟨x, h1, h2⟩ := Option.map_eq_some_iff.mp hex
        have h2 := Sum.inr.inj (Sum.inr.inj h2)
        subst h2
        refine ⟨⟨Nat.le_refl _, Nat.le_refl _⟩, fun p e R s m args below meth c H locs cells slots Q lsM hx hb hml hown hnm hts hE hK hR hloc hl h8 h9 h10 h11 hret => ?_⟩
        have hd := hdl (by rw [hk]; decide)
        rw [rf_l6 hk] at hd
        have h12 := hret pc I.1 H locs lsM st hd h1 hR hloc
        simp only [Nat.sub_self, Nat.add_zero] at h12
        exact h12
      · obtain ⟨x, h1, h2⟩ := Option.map_eq_some_iff.mp hex; cases h2
      · cases hex
/-! RUNS OF THE EVALUATOR: more fuel and more room do no harm; a run to an end with Q -/
theorem rf_ev_mono (cx : rf_C) : ∀ (n : Nat) (d : Nat × Nat) (i pc : Nat) (ls : rf_L) (st : List Value) (h : rf_H) (x : Option Value × rf_H), rf_ev cx n d i pc ls st h = some x → ∀ m, n ≤ m → rf_ev cx m d i pc ls st h = some x := by
  intro n
  induction n with
  | zero =>
    intro d i pc ls st h x he
    unfold rf_ev at he
    cases he
  | succ n ih =>
    intro d i pc ls st h x he m hm
    obtain ⟨k, rfl⟩ : ∃ k, m = k + 1 := ⟨m - 1, by omega⟩
    have hk : n ≤ k := by omega
    unfold rf_ev at he ⊢
    cases hf : cx.1 i pc with
    | none => rw [hf] at he; cases he
    | some I =>
      rw [hf] at he
      dsimp only at he ⊢
      cases hx : rf_ex cx d i pc I ls st h with
      | none => rw [hx] at he; cases he
      | some o =>
        rw [hx] at he
        rcases o with q | q | v
        · exact ih _ _ _ _ _ _ _ he k hk
        · dsimp only at he ⊢
          split at he
          · rename_i hc
            rw [if_pos hc]
            cases hcal : rf_ev cx n (d.1 - 1, d.2 - ((cx.2.1 q.1).2.2.1 + 19)) q.1 0 (lv_args 0 q.2.1) [] h with
            | none => rw [hcal] at he; cases he
            | some r =>
              rw [hcal] at he
              rw [ih _ _ _ _ _ _ _ hcal k hk]
              exact ih _ _ _ _ _ _ _ he k hk
          · cases he
        · exact he
theorem rf_ok8_room {r : List Value} {d d' : Nat × Nat} {w : Nat} (h1 : d.1 ≤ d'.1) (h2 : d.2 ≤ d'.2) (h : rf_ok8 r d w = true) : rf_ok8 r d' w = true := by
  unfold rf_ok8 at h ⊢
  simp only [Bool.and_eq_true, decide_eq_true_eq] at h ⊢
  omega
theorem rf_bi_room {cx : rf_C} {kd : Int} {d d' : Nat × Nat} {st : List Value} {h : rf_H} {q : List Value × rf_H} (h1 : d.1 ≤ d'.1) (h2 : d.2 ≤ d'.2) (he : rf_bi cx kd d st h = some q) : rf_bi cx kd d' st h = some q := by
  unfold rf_bi at he ⊢
  split at he
  · rename_i hk
    rw [if_pos hk]
    split at he
    · split at he
      · rename_i h8
        rw [if_pos (rf_ok8_room h1 h2 h8)]
        exact he
      · cases he
    · cases he
  · rename_i hk
    rw [if_neg hk]
    split at he
    · rename_i hk
      rw [if_pos hk]
      split at he
      · split at he
        · rename_i h8
          rw [if_pos ⟨rf_ok8_room h1 h2 h8.1, h8.2⟩]
          exact he
        · cases he
      · cases he
    · rename_i hk
      rw [if_neg hk]
      split at he
      · rename_i hk
        rw [if_pos hk]
        split at he
        · split at he
          · rename_i h8
            rw [if_pos (rf_ok8_room h1 h2 h8)]
            exact he
          · cases he
        · cases he
      · rename_i hk
        rw [if_neg hk]
        split at he
        · rename_i hk
          rw [if_pos hk]
          split at he
          · split at he
            · rename_i h8
              rw [if_pos (rf_ok8_room h1 h2 h8)]
              exact he
            · cases he
          · cases he
        · cases he
theorem rf_ex_room {cx : rf_C} {d d' : Nat × Nat} {i pc : Nat} {I : rf_I} {ls : rf_L} {st : List Value} {h : rf_H} {o : rf_O} (h1 : d.1 ≤ d'.1) (h2 : d.2 ≤ d'.2) (he : rf_ex cx d i pc I ls st h = some o) : rf_ex cx d' i pc I ls st h = some o := by
  unfold rf_ex at he ⊢
  split at he
  all_goals first
    | exact he
    | skip
  split at he
  · rename_i hk
    rw [if_pos hk]
    obtain ⟨x, q1, q2⟩ := Option.map_eq_some_iff.mp he
    rw [rf_bi_room h1 h2 q1, Option.map_some, q2]
  · rename_i hk
    rw [if_neg hk]
    exact he
theorem rf_ev_room (cx : rf_C) : ∀ (n : Nat) (d d' : Nat × Nat) (i pc : Nat) (ls : rf_L) (st : List Value) (h : rf_H) (x : Option Value × rf_H), d.1 ≤ d'.1 → d.2 ≤ d'.2 → rf_ev cx n d i pc ls st h = some x → rf_ev cx n d' i pc ls st h = some x := by
  intro n
  induction n with
  | zero =>
    intro d d' i pc ls st h x h1 h2 he
    unfold rf_ev at he
    cases he
  | succ n ih =>
    intro d d' i pc ls st h x h1 h2 he
    unfold rf_ev at he ⊢
    cases hf : cx.1 i pc with
    | none => rw [hf] at he; cases he
    | some I =>
      rw [hf] at he
      dsimp only at he ⊢
      cases hx : rf_ex cx d i pc I ls st h with
      | none => rw [hx] at he; cases he
      | some o =>
        rw [hx] at he
        rw [rf_ex_room h1 h2 hx]
        rcases o with q | q | v
        · exact ih _ _ _ _ _ _ _ _ h1 h2 he
        · dsimp only at he ⊢
          split at he
          · rename_i hc
            rw [if_pos (show 1 ≤ d'.1 ∧ (cx.2.1 q.1).2.2.1 + 19 ≤ d'.2 ∧ (lg_sl q.2.1).length ≤ (cx.2.1 q.1).2.2.1 from ⟨by omega, by omega, hc.2.2⟩)]
            cases hcal : rf_ev cx n (d.1 - 1, d.2 - ((cx.2.1 q.1).2.2.1 + 19)) q.1 0 (lv_args 0 q.2.1) [] h with
            | none => rw [hcal] at he; cases he
            | some r =>
              rw [hcal] at he
              rw [ih _ (d'.1 - 1, d'.2 - ((cx.2.1 q.1).2.2.1 + 19)) _ _ _ _ _ _ (by dsimp only; omega) (by dsimp only; omega) hcal]
              exact ih _ _ _ _ _ _ _ _ h1 h2 he
          · cases he
        · exact he
/-- the run ends, and its end has Q -/
def gx (cx : rf_C) (d : Nat × Nat) (i pc : Nat) (ls : rf_L) (st : List Value) (h : rf_H) (Q : Option Value → rf_H → Prop) : Prop := ∃ (n : Nat) (r : Option Value) (hF : rf_H), rf_ev cx n d i pc ls st h = some (r, hF) ∧ Q r hF
section GX
variable {cx : rf_C} {d : Nat × Nat} {i pc : Nat} {ls : rf_L} {st : List Value} {h : rf_H} {Q : Option Value → rf_H → Prop}
theorem gx_step {I : rf_I} {pc' : Nat} {ls' : rf_L} {st' : List Value} {h' : rf_H} (hf : cx.1 i pc = some I) (he : rf_ex cx d i pc I ls st h = some (.inl (pc', ls', st', h'))) (k : gx cx d i pc' ls' st' h' Q) : gx cx d i pc ls st h Q := by
  obtain ⟨n, r, hF, h1, h2⟩ := k
  refine ⟨n + 1, r, hF, ?_, h2⟩
  unfold rf_ev
  rw [hf]
  dsimp only
  rw [he]
  exact h1
theorem gx_call {I : rf_I} {j : Nat} {as rest : List Value} (hf : cx.1 i pc = some I) (he : rf_ex cx d i pc I ls st h = some (.inr (.inl (j, as, rest)))) (hroom : 1 ≤ d.1 ∧ (cx.2.1 j).2.2.1 + 19 ≤ d.2 ∧ (lg_sl as).length ≤ (cx.2.1 j).2.2.1) (k : gx cx (d.1 - 1, d.2 - ((cx.2.1 j).2.2.1 + 19)) j 0 (lv_args 0 as) [] h (fun r h' => gx cx d i (pc + 3) ls (r.toList ++ rest) h' Q)) : gx cx d i pc ls st h Q := by
  obtain ⟨n, r, h', h1, m, r2, hF, h3, h4⟩ := k
  refine ⟨max n m + 1, r2, hF, ?_, h4⟩
  unfold rf_ev
  rw [hf]
  dsimp only
  rw [he]
  dsimp only
  rw [if_pos hroom, rf_ev_mono _ _ _ _ _ _ _ _ _ h1 _ (Nat.le_max_left n m)]
  exact rf_ev_mono _ _ _ _ _ _ _ _ _ h3 _ (Nat.le_max_right n m)
theorem gx_ret {I : rf_I} {v : Option Value} (hf : cx.1 i pc = some I) (he : rf_ex cx d i pc I ls st h = some (.inr (.inr v))) (hq : Q v h) : gx cx d i pc ls st h Q := by
  refine ⟨1, v, h, ?_, hq⟩
  unfold rf_ev
  rw [hf]
  dsimp only
  rw [he]
theorem gx_mono {Q' : Option Value → rf_H → Prop} (k : gx cx d i pc ls st h Q) (hq : ∀ r h', Q r h' → Q' r h') : gx cx d i pc ls st h Q' := by
  obtain ⟨n, r, hF, h1, h2⟩ := k
  exact ⟨n, r, hF, h1, hq _ _ h2⟩
theorem gx_room {d' : Nat × Nat} (k : gx cx d i pc ls st h Q) (h1 : d.1 ≤ d'.1) (h2 : d.2 ≤ d'.2) : gx cx d' i pc ls st h Q := by
  obtain ⟨n, r, hF, h3, h4⟩ := k
  exact ⟨n, r, hF, rf_ev_room _ _ _ _ _ _ _ _ _ _ h1 h2 h3, h4⟩
end GX
/-! TABLES OF CODE, CHECKED BY A PROGRAM -/
/-- what an instruction's link must be -/
def rf_wk (cx : rf_C) (ocl : List vw_C) (tb sp : List Cond) (str : List (String × Nat × String × Nat)) (stt : List (String × String × String × Value)) (own nm : String) (I : rf_I) : Prop := match rf_kd I.1 with
  | 4 => rf_wlk cx ocl tb sp own nm I.1 I.2
  | 5 => if 10 ≤ (I.2.headD (0, 0)).1 then ∃ idx : Nat, (((I.2.headD (0, 0)).1 = 10 ∧ I.1 = .invokespecial idx) ∨ ((I.2.headD (0, 0)).1 ≠ 10 ∧ I.1 = .invokestatic idx)) ∧ rf_wi8 tb own idx (I.2.headD (0, 0)).1 else rf_wc cx ocl tb sp own I.1 I.2
  | 7 => rf_wp tb str stt own I.1 I.2
  | _ => True
/-- instructions with a link -/
def rf_nl (I : Instr) : Bool := match I with
  | .getfield _ => true
  | .putfield _ => true
  | .new _ => true
  | .newarray _ => true
  | .anewarray _ => true
  | .invokevirtual _ => true
  | .invokespecial _ => true
  | .invokestatic _ => true
  | .ldc _ => true
  | .ldc2_w _ => true
  | .getstatic _ => true
  | _ => false
def rf_chk (lk : List (Bool × rf_I)) (ini : Bool) (b : ByteArray) (q : Nat × rf_I × Nat) : Bool :=
  (match decode b q.1 with
    | .ok (J, n) => decide (J = q.2.1.1) && (rf_iw q.2.1.1 || n == rf_len q.2.1.1)
    | _ => false) && (!(rf_kd q.2.1.1 == 3) || rf_wb q.2.1.1 q.2.1.2 q.1) && (!rf_nl q.2.1.1 || (match lk[q.2.2]? with
    | some e => decide (e.2 = q.2.1) && (!e.1 || ini)
    | none => false))
/-- a method's entry: its name, bytes, locals, answer; its class; its code (place, instruction, the number of its link in the class's list) -/
abbrev rf_E1 : Type := rf_Mt × Nat × List (Nat × rf_I × Nat)
def rf_mck (nmO : Nat → String) (lk : Nat → List (Bool × rf_I)) (e : rf_E1) : Bool := decide (e.1.1.cls = nmO e.2.1) && e.2.2.all (rf_chk (lk e.2.1) (e.1.1.name == "<init>") e.1.2.1)
def rf_dm : rf_E1 := ((⟨"", "", ""⟩, ⟨#[]⟩, 0, none), 0, [])
def rf_cx (ml : List rf_E1) (ty : Int → Nat → FieldType) (cl : List vw_C) (a0 : Nat) : rf_C := (fun i pc => ((ml.getD i rf_dm).2.2.find? (fun q => q.1 == pc)).map (fun q => q.2.1), fun i => (ml.getD i rf_dm).1, ty, cl, a0)
theorem rf_wk_nl {cx : rf_C} {ocl : List vw_C} {tb sp : List Cond} {str : List (String × Nat × String × Nat)} {stt : List (String × String × String × Value)} {own nm : String} {I : rf_I} (h : rf_nl I.1 = false) : rf_wk cx ocl tb sp str stt own nm I := by
  obtain ⟨I, aux⟩ := I
  cases I <;> first | exact trivial | (simp [rf_nl] at h)
theorem rf_wf_of {ml : List rf_E1} {ty : Int → Nat → FieldType} {cl : List vw_C} {a0 : Nat} {ocl : List vw_C} {tb sp : List Cond} {str : List (String × Nat × String × Nat)} {stt : List (String × String × String × Value)} {nmO : Nat → String} {lk : Nat → List (Bool × rf_I)}
    (hm : ∀ e ∈ ml, rf_mck nmO lk e = true) (hl : ∀ (c : Nat) (e : Bool × rf_I), e ∈ lk c → ∀ nm : String, (e.1 = true → nm = "<init>") → rf_wk (rf_cx ml ty cl a0) ocl tb sp str stt (nmO c) nm e.2) :
    ∀ (i pc : Nat) (I : rf_I), (rf_cx ml ty cl a0).1 i pc = some I → rf_wf (rf_cx ml ty cl a0) ocl tb sp str stt i pc I := by
  intro i pc I h
  have h0 : ((ml.getD i rf_dm).2.2.find? (fun q => q.1 == pc)).map (fun q => q.2.1) = some I := h
  obtain ⟨q, hq, hqI⟩ := Option.map_eq_some_iff.mp h0
  have hmem := List.mem_of_find?_eq_some hq
  have hpc : q.1 = pc := by simpa using List.find?_some hq
  have hi : i < ml.length := by
    rcases Nat.lt_or_ge i ml.length with z | z
    · exact z
    · have h9 : ml.getD i rf_dm = rf_dm := by simp [List.getD_eq_getElem?_getD, List.getElem?_eq_none z]
      rw [h9] at hmem
      cases hmem
  have hin : ml.getD i rf_dm ∈ ml := by
    rw [List.getD_eq_getElem?_getD, List.getElem?_eq_getElem hi]
    exact List.getElem_mem hi
  have hck := hm _ hin
  unfold rf_mck at hck
  simp only [Bool.and_eq_true, decide_eq_true_eq, List.all_eq_true] at hck
  obtain ⟨hc1, hc2⟩ := hck
  have hc3 := hc2 q hmem
  unfold rf_chk at hc3
  simp only [Bool.and_eq_true] at hc3
  obtain ⟨⟨c1, c2⟩, c3⟩ := hc3
  rw [hqI, hpc] at c1
  rw [hqI, hpc] at c2
  rw [hqI] at c3
  have hown : (((rf_cx ml ty cl a0).2.1 i).1).cls = nmO (ml.getD i rf_dm).2.1 := hc1
  have hwk : rf_wk (rf_cx ml ty cl a0) ocl tb sp str stt (((rf_cx ml ty cl a0).2.1 i).1).cls (((rf_cx ml ty cl a0).2.1 i).1).name I := by
    rw [hown]
    cases hn : rf_nl I.1 with
    | false => exact rf_wk_nl hn
    | true =>
      rw [hn] at c3
      rw [Bool.not_true, Bool.false_or] at c3
      split at c3
      · rename_i e9 he9
        simp only [Bool.and_eq_true, decide_eq_true_eq, Bool.or_eq_true, Bool.not_eq_true'] at c3
        obtain ⟨z1, z2⟩ := c3
        rw [← z1]
        refine hl _ e9 (List.mem_of_getElem? he9) _ (fun y => ?_)
        rcases z2 with z2 | z2
        · rw [y] at z2; cases z2
        · exact beq_iff_eq.mp z2
      · cases c3
  refine ⟨?_, ?_⟩
  · revert c1
    show (match decode (ml.getD i rf_dm).1.2.1 pc with
    | .ok (J, n) => decide (J = I.1) && (rf_iw I.1 || n == rf_len I.1)
    | _ => false) = true → ∃ len : Nat, decode (ml.getD i rf_dm).1.2.1 pc = .ok (I.1, len) ∧ (rf_iw I.1 = true ∨ len = rf_len I.1)
    intro c1
    split at c1
    · rename_i J n hd
      simp only [Bool.and_eq_true, decide_eq_true_eq, Bool.or_eq_true, beq_iff_eq] at c1
      refine ⟨n, ?_, c1.2⟩
      rw [hd, c1.1]
    · cases c1
  · unfold rf_wk at hwk
    split
    · rename_i hk
      rw [hk] at c2
      simpa using c2
    · rename_i hk
      rw [hk] at hwk
      exact hwk
    · rename_i hk
      rw [hk] at hwk
      exact hwk
    · rename_i hk
      rw [hk] at hwk
      exact hwk
    · trivial
/-! LINKS, kind by kind -/
theorem rf_mck_cg {nmO : Nat → String} {lk lk' : Nat → List (Bool × rf_I)} {e : rf_E1} (h : lk e.2.1 = lk' e.2.1) (hc : rf_mck nmO lk' e = true) : rf_mck nmO lk e = true := by
  unfold rf_mck at hc ⊢
  rw [h]
  exact hc
section WK

variable {cx : rf_C} {ocl : List vw_C} {tb sp : List Cond} {str : List (String × Nat × String × Nat)} {stt : List (String × String × String × Value)} {own nm : String}

theorem mem1 {α : Type} {a : α} {P : α → Prop} (h : P a) : ∀ q ∈ [a], P q := fun q hq => by rw [List.mem_singleton.mp hq]; exact h
theorem mem2 {α : Type} {a b : α} {P : α → Prop} (h : P a) (h2 : P b) : ∀ q ∈ [a, b], P q := fun q hq => by
  rcases List.mem_cons.mp hq with z | z
  · rw [z]; exact h
  · rw [List.mem_singleton.mp z]; exact h2
theorem wk_gf {idx ci k : Nat} {r : vw_C} (hr : cx.2.2.2.1[ci]? = some r) (hg : rf_wg tb own idx r k) : rf_wk cx ocl tb sp str stt own nm (.getfield idx, [((ci : Int), k)]) :=
  show ∀ q ∈ [((ci : Int), k)], _ from mem1 ⟨fun _ => ⟨r, hr, hg⟩, fun z => absurd z (by simp only; omega)⟩
theorem wk_gf2 {idx ci k ci2 k2 : Nat} {r r2 : vw_C} (hr : cx.2.2.2.1[ci]? = some r) (hg : rf_wg tb own idx r k) (hr2 : cx.2.2.2.1[ci2]? = some r2) (hg2 : rf_wg tb own idx r2 k2) : rf_wk cx ocl tb sp str stt own nm (.getfield idx, [((ci : Int), k), ((ci2 : Int), k2)]) :=
  show ∀ q ∈ [((ci : Int), k), ((ci2 : Int), k2)], _ from mem2 ⟨fun _ => ⟨r, hr, hg⟩, fun z => absurd z (by simp only; omega)⟩ ⟨fun _ => ⟨r2, hr2, hg2⟩, fun z => absurd z (by simp only; omega)⟩
theorem wk_gfo {idx k : Nat} {r : vw_C} (hr : ocl[0]? = some r) (hg : rf_wg tb own idx r k) : rf_wk cx ocl tb sp str stt own nm (.getfield idx, [(-1, k)]) :=
  show ∀ q ∈ [((-1 : Int), k)], _ from mem1 ⟨fun z => absurd z (by simp), fun _ => ⟨r, hr, hg⟩⟩
theorem wk_pf {idx ci k : Nat} {r : vw_C} (hr : cx.2.2.2.1[ci]? = some r) (hg : rf_wg tb own idx r k) (hf : (r.2.1 k).2.2.2 = false) : rf_wk cx ocl tb sp str stt own nm (.putfield idx, [((ci : Int), k)]) :=
  show ∀ q ∈ [((ci : Int), k)], _ from mem1 (fun _ => ⟨r, hr, hg, Or.inl hf⟩)
theorem wk_pff {idx ci k : Nat} {r : vw_C} (hr : cx.2.2.2.1[ci]? = some r) (hg : rf_wg tb own idx r k) (hf : (r.2.1 k).2.2.2 = true) (hn : nm = "<init>") (ho : (r.2.1 k).1 = own) : rf_wk cx ocl tb sp str stt own nm (.putfield idx, [((ci : Int), k)]) :=
  show ∀ q ∈ [((ci : Int), k)], _ from mem1 (fun _ => ⟨r, hr, hg, Or.inr ⟨hf, hn, ho⟩⟩)
theorem wk_new {idx ci : Nat} {r : vw_C} (hr : cx.2.2.2.1[ci]? = some r) (h1 : Cond.classLink own idx r.1 ∈ tb) (h2 : Cond.instantiable r.1 r.2.2 ∈ tb) (h3 : Cond.initialized r.1 ∈ tb) : rf_wk cx ocl tb sp str stt own nm (.new idx, [(0, ci)]) :=
  show ∀ q ∈ [((0 : Int), ci)], _ from mem1 (fun r' hr' => by cases hr.symm.trans hr'; exact ⟨h1, h2, h3⟩)
theorem wk_newa {t : ArrayType} (h : Cond.arrayClass (newarray.typeOf t) ∈ tb) : rf_wk cx ocl tb sp str stt own nm (.newarray t, []) := h
theorem wk_anew {idx ci : Nat} {r : vw_C} (hr : cx.2.2.2.1[ci]? = some r) (h1 : Cond.classLink own idx r.1 ∈ tb) (h2 : Cond.arrayOver (.object r.1) ∈ sp) : rf_wk cx ocl tb sp str stt own nm (.anewarray idx, [(0, ci)]) :=
  show ∀ q ∈ [((0 : Int), ci)], _ from mem1 (fun r' hr' => by cases hr.symm.trans hr'; exact ⟨h1, h2⟩)
theorem mo_of {np j mL : Nat} {y : MethodName} {b : ByteArray} {rt : Option FieldType} (h : cx.2.1 j = (y, b, mL, rt)) (h1 : Cond.code y b mL rt ∈ tb) (h2 : plainName y.cls = true) (h3 : y.cls ≠ "java/lang/invoke/MethodHandle" ∧ y.cls ≠ "java/lang/invoke/VarHandle") (h4 : (parseMethodDescriptor y.desc).map (fun d => d.parameters.length) = some np) (h5 : Cond.initialized y.cls ∈ tb) : rf_mo cx tb np j := by
  unfold rf_mo
  rw [h]
  exact ⟨h1, h2, h3, h4, h5⟩
theorem wk_iv {idx np ci j mL : Nat} {y : MethodName} {b : ByteArray} {rt : Option FieldType} {r : vw_C} (hr : cx.2.2.2.1[ci]? = some r) (h : cx.2.1 j = (y, b, mL, rt)) (hm : rf_mo cx tb np j) (h1 : Cond.instanceMethod y ∈ tb) (h2 : Cond.methodLink own idx y ∈ tb) (h3 : Cond.selects r.1 y y ∈ tb) : rf_wk cx ocl tb sp str stt own nm (.invokevirtual idx, [(0, np), ((ci : Int), j)]) :=
  show ∀ q ∈ [((ci : Int), j)], _ from mem1 ⟨hm, by rw [h]; exact h1, r.1, by unfold rf_nm; rw [if_pos (by simp only; omega)]; simp [hr], Or.inl ⟨by rw [h]; exact h2, by rw [h]; exact h3⟩⟩
theorem wk_ivo {idx np j mL : Nat} {y : MethodName} {b : ByteArray} {rt : Option FieldType} {r : vw_C} (hr : ocl[0]? = some r) (h : cx.2.1 j = (y, b, mL, rt)) (hm : rf_mo cx tb np j) (h1 : Cond.instanceMethod y ∈ tb) (h2 : Cond.methodLink own idx y ∈ tb) (h3 : Cond.selects r.1 y y ∈ tb) : rf_wk cx ocl tb sp str stt own nm (.invokevirtual idx, [(0, np), (-1, j)]) :=
  show ∀ q ∈ [((-1 : Int), j)], _ from mem1 ⟨hm, by rw [h]; exact h1, r.1, by unfold rf_nm; rw [if_neg (by simp)]; simp [hr], Or.inl ⟨by rw [h]; exact h2, by rw [h]; exact h3⟩⟩
/-- an abstract method, two classes that have it -/
theorem wk_iva {idx np ci j mL ci2 j2 mL2 : Nat} {x y y2 : MethodName} {owner : String} {b b2 : ByteArray} {rt rt2 : Option FieldType} {r r2 : vw_C} (hl : Cond.methodLink own idx x ∈ tb) (hs : Cond.sameMethod x.cls owner x.name x.desc ∈ tb) (ho : owner ≠ "java/lang/invoke/MethodHandle" ∧ owner ≠ "java/lang/invoke/VarHandle") (hd : Cond.declares ⟨owner, x.name, x.desc⟩ ∈ sp)
    (hr : cx.2.2.2.1[ci]? = some r) (h : cx.2.1 j = (y, b, mL, rt)) (hm : rf_mo cx tb np j) (h1 : Cond.instanceMethod y ∈ tb) (h3 : Cond.selects r.1 x y ∈ tb) (hdd : x.desc = y.desc)
    (hr2 : cx.2.2.2.1[ci2]? = some r2) (g : cx.2.1 j2 = (y2, b2, mL2, rt2)) (gm : rf_mo cx tb np j2) (g1 : Cond.instanceMethod y2 ∈ tb) (g3 : Cond.selects r2.1 x y2 ∈ tb) (gdd : x.desc = y2.desc) : rf_wk cx ocl tb sp str stt own nm (.invokevirtual idx, [(0, np), ((ci : Int), j), ((ci2 : Int), j2)]) :=
  show ∀ q ∈ [((ci : Int), j), ((ci2 : Int), j2)], _ from mem2 ⟨hm, by rw [h]; exact h1, r.1, by unfold rf_nm; rw [if_pos (by simp only; omega)]; simp [hr], Or.inr (Or.inl ⟨x, owner, hl, hs, ho, hd, by rw [h]; exact h3, by rw [h]; exact hdd⟩)⟩
    ⟨gm, by rw [g]; exact g1, r2.1, by unfold rf_nm; rw [if_pos (by simp only; omega)]; simp [hr2], Or.inr (Or.inl ⟨x, owner, hl, hs, ho, hd, by rw [g]; exact g3, by rw [g]; exact gdd⟩)⟩
theorem wk_is {idx np j mL : Nat} {y : MethodName} {b : ByteArray} (h : cx.2.1 j = (y, b, mL, none)) (hm : rf_mo cx tb np j) (h1 : Cond.instanceMethod y ∈ tb) (hn : y.name = "<init>") (h2 : Cond.methodLink own idx y ∈ tb) : rf_wk cx ocl tb sp str stt own nm (.invokespecial idx, [(0, np), (0, j)]) :=
  show ∀ q ∈ [((0 : Int), j)], _ from mem1 ⟨hm, by rw [h]; exact h1, by rw [h]; exact hn, by rw [h], Or.inl (by rw [h]; exact h2)⟩
theorem wk_isN {idx np j mL : Nat} {y : MethodName} {b : ByteArray} {host : String} (h : cx.2.1 j = (y, b, mL, none)) (hm : rf_mo cx tb np j) (h1 : Cond.instanceMethod y ∈ tb) (hn : y.name = "<init>") (h2 : Cond.methodLinkNest own idx y host ∈ sp) : rf_wk cx ocl tb sp str stt own nm (.invokespecial idx, [(0, np), (0, j)]) :=
  show ∀ q ∈ [((0 : Int), j)], _ from mem1 ⟨hm, by rw [h]; exact h1, by rw [h]; exact hn, by rw [h], Or.inr ⟨host, by rw [h]; exact h2⟩⟩
theorem wk_st {idx np j mL : Nat} {y : MethodName} {b : ByteArray} {rt : Option FieldType} (h : cx.2.1 j = (y, b, mL, rt)) (hm : rf_mo cx tb np j) (h1 : Cond.static y ∈ tb) (h2 : Cond.methodLink own idx y ∈ tb) : rf_wk cx ocl tb sp str stt own nm (.invokestatic idx, [(0, np), (0, j)]) :=
  show ∀ q ∈ [((0 : Int), j)], _ from mem1 ⟨hm, by rw [h]; exact h1, Or.inl (by rw [h]; exact h2)⟩
theorem wk_stN {idx np j mL : Nat} {y : MethodName} {b : ByteArray} {rt : Option FieldType} {host : String} (h : cx.2.1 j = (y, b, mL, rt)) (hm : rf_mo cx tb np j) (h1 : Cond.static y ∈ tb) (h2 : Cond.methodLinkNest own idx y host ∈ sp) : rf_wk cx ocl tb sp str stt own nm (.invokestatic idx, [(0, np), (0, j)]) :=
  show ∀ q ∈ [((0 : Int), j)], _ from mem1 ⟨hm, by rw [h]; exact h1, Or.inr ⟨host, by rw [h]; exact h2⟩⟩
theorem w8_10 {idx : Nat} (h1 : Cond.methodLink own idx objectInit ∈ tb) (h2 : Cond.instanceMethod objectInit ∈ tb) (h3 : Cond.code objectInit ⟨#[0xb1]⟩ 1 none ∈ tb) : rf_wi8 tb own idx 10 := ⟨fun _ => ⟨h1, h2, h3⟩, (fun z => absurd z (by decide)), (fun z => absurd z (by decide)), (fun z => absurd z (by decide))⟩
theorem w8_11 {idx : Nat} (h1 : Cond.methodLink own idx arraycopyName ∈ tb) (h2 : Cond.native arraycopyName ∈ tb) (h3 : Cond.static arraycopyName ∈ tb) (h4 : Cond.initialized "java/lang/System" ∈ tb) : rf_wi8 tb own idx 11 := ⟨(fun z => absurd z (by decide)), fun _ => ⟨h1, h2, h3, h4⟩, (fun z => absurd z (by decide)), (fun z => absurd z (by decide))⟩
theorem w8_12 {idx : Nat} (h1 : Cond.methodLink own idx Lib.Math.min.name ∈ tb) (h2 : Cond.static Lib.Math.min.name ∈ tb) (h3 : Cond.initialized "java/lang/Math" ∈ tb) (h4 : Cond.code Lib.Math.min.name Lib.Math.min.code 2 (some .int) ∈ tb) : rf_wi8 tb own idx 12 := ⟨(fun z => absurd z (by decide)), (fun z => absurd z (by decide)), fun _ => ⟨h1, h2, h3, h4⟩, (fun z => absurd z (by decide))⟩
theorem w8_13 {idx : Nat} (h1 : Cond.methodLink own idx Lib.Math.max.name ∈ tb) (h2 : Cond.static Lib.Math.max.name ∈ tb) (h3 : Cond.initialized "java/lang/Math" ∈ tb) (h4 : Cond.code Lib.Math.max.name Lib.Math.max.code 2 (some .int) ∈ tb) : rf_wi8 tb own idx 13 := ⟨(fun z => absurd z (by decide)), (fun z => absurd z (by decide)), (fun z => absurd z (by decide)), fun _ => ⟨h1, h2, h3, h4⟩⟩
theorem ne1110 : (11 : Int) ≠ 10 := by decide
theorem ne1210 : (12 : Int) ≠ 10 := by decide
theorem ne1310 : (13 : Int) ≠ 10 := by decide
theorem wk_10 {idx : Nat} (h1 : Cond.methodLink own idx objectInit ∈ tb) (h2 : Cond.instanceMethod objectInit ∈ tb) (h3 : Cond.code objectInit ⟨#[0xb1]⟩ 1 none ∈ tb) : rf_wk cx ocl tb sp str stt own nm (.invokespecial idx, [(10, 0)]) :=
  show ∃ idx' : Nat, _ from ⟨idx, Or.inl ⟨rfl, rfl⟩, w8_10 h1 h2 h3⟩
theorem wk_11 {idx : Nat} (h1 : Cond.methodLink own idx arraycopyName ∈ tb) (h2 : Cond.native arraycopyName ∈ tb) (h3 : Cond.static arraycopyName ∈ tb) (h4 : Cond.initialized "java/lang/System" ∈ tb) : rf_wk cx ocl tb sp str stt own nm (.invokestatic idx, [(11, 0)]) :=
  show ∃ idx' : Nat, _ from ⟨idx, Or.inr ⟨ne1110, rfl⟩, w8_11 h1 h2 h3 h4⟩
theorem wk_12 {idx : Nat} (h1 : Cond.methodLink own idx Lib.Math.min.name ∈ tb) (h2 : Cond.static Lib.Math.min.name ∈ tb) (h3 : Cond.initialized "java/lang/Math" ∈ tb) (h4 : Cond.code Lib.Math.min.name Lib.Math.min.code 2 (some .int) ∈ tb) : rf_wk cx ocl tb sp str stt own nm (.invokestatic idx, [(12, 0)]) :=
  show ∃ idx' : Nat, _ from ⟨idx, Or.inr ⟨ne1210, rfl⟩, w8_12 h1 h2 h3 h4⟩
theorem wk_13 {idx : Nat} (h1 : Cond.methodLink own idx Lib.Math.max.name ∈ tb) (h2 : Cond.static Lib.Math.max.name ∈ tb) (h3 : Cond.initialized "java/lang/Math" ∈ tb) (h4 : Cond.code Lib.Math.max.name Lib.Math.max.code 2 (some .int) ∈ tb) : rf_wk cx ocl tb sp str stt own nm (.invokestatic idx, [(13, 0)]) :=
  show ∃ idx' : Nat, _ from ⟨idx, Or.inr ⟨ne1310, rfl⟩, w8_13 h1 h2 h3 h4⟩
theorem wk_l2 {idx k : Nat} (h : Cond.constantLong own idx (Int64.ofNat k) ∈ tb) : rf_wk cx ocl tb sp str stt own nm (.ldc2_w idx, [(1, k)]) := h
theorem wk_ls {idx a : Nat} {tx : String} (h : (own, idx, tx, a) ∈ str) : rf_wk cx ocl tb sp str stt own nm (.ldc idx, [(2, a)]) := ⟨tx, h⟩
theorem wk_gi {idx k : Nat} {C n d : String} (h : (C, n, d, Value.int (Int32.ofNat k)) ∈ stt) (h2 : Cond.fieldLink own idx C n d ∈ tb) : rf_wk cx ocl tb sp str stt own nm (.getstatic idx, [(0, k)]) := ⟨C, n, d, h, h2⟩
theorem wk_gr {idx a : Nat} {C n d : String} (h : (C, n, d, Value.ref a) ∈ stt) (h2 : Cond.fieldLink own idx C n d ∈ tb) : rf_wk cx ocl tb sp str stt own nm (.getstatic idx, [(2, a)]) := ⟨C, n, d, h, h2⟩
theorem wk_gn {idx a : Nat} {C n d : String} (h : (C, n, d, Value.null) ∈ stt) (h2 : Cond.fieldLink own idx C n d ∈ tb) : rf_wk cx ocl tb sp str stt own nm (.getstatic idx, [(3, a)]) := ⟨C, n, d, h, h2⟩
end WK
