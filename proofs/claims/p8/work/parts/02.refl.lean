/-! THE REFLECTION: a small evaluator of bytecode over an abstract heap; the machine does what the evaluator does. Abstract cells are numbers; ad tells their addresses: those below a0 lie there before the law begins and are only read (0 is a thing that nobody looks into); the others are made in order. -/
abbrev rf_M : Type := (Nat → Nat → Int32) × (Nat → Nat → Int64) × (Nat → Nat → Option Nat)
abbrev rf_S : Type := Nat ⊕ (FieldType × Nat)
abbrev rf_H : Type := rf_M × (Nat → rf_S) × Nat × Nat
abbrev rf_L : Type := List (Nat × Value)
abbrev rf_I : Type := Instr × List (Int × Nat)
abbrev rf_N : Type := Nat × rf_L × List Value × rf_H
abbrev rf_O : Type := rf_N ⊕ ((Nat × List Value × List Value) ⊕ Option Value)
abbrev rf_Mt : Type := MethodName × ByteArray × Nat × Option FieldType
/-- the program: what stands at a place; the methods; the types of fields (by the key of a class); the classes; the number of old cells -/
abbrev rf_C : Type := (Nat → Nat → Option rf_I) × (Nat → rf_Mt) × (Int → Nat → FieldType) × List vw_C × Nat
def rf_cv (ad : Nat → Nat) : Value → Value
  | .ref a => .ref (ad a)
  | v => v
theorem rf_cat (ad : Nat → Nat) (v : Value) : (rf_cv ad v).category = v.category := by cases v <;> rfl
theorem rf_cvrf (ad : Nat → Nat) (r : Option Nat) : rf_cv ad (va_rf r) = va_rf (r.map ad) := by cases r <;> rfl
theorem rf_cats (ad : Nat → Nat) (st : List Value) : ((st.map (rf_cv ad)).map fun v => v.category).sum = (st.map fun v => v.category).sum := by
  rw [List.map_map]
  congr 1
  exact List.map_congr_left (fun v _ => rf_cat ad v)
/-- slot k of cell a, by its type -/
def rf_rd (M : rf_M) (ty : FieldType) (a k : Nat) : Value := match ty with
  | .long => .long (M.2.1 a k)
  | .object _ => va_rf (M.2.2 a k)
  | .array _ => va_rf (M.2.2 a k)
  | .float => .null
  | .double => .null
  | _ => .int (M.1 a k)
def rf_wi (M : rf_M) (a k : Nat) (x : Int32) : rf_M := (va_up M.1 a (va_up (M.1 a) k x), M.2.1, M.2.2)
def rf_wl (M : rf_M) (a k : Nat) (x : Int64) : rf_M := (M.1, va_up M.2.1 a (va_up (M.2.1 a) k x), M.2.2)
def rf_wq (M : rf_M) (a k : Nat) (x : Option Nat) : rf_M := (M.1, M.2.1, va_up M.2.2 a (va_up (M.2.2 a) k x))
def rf_wr (M : rf_M) (ty : FieldType) (a k : Nat) (v : Value) : Option rf_M := match ty, v with
  | .int, .int x => some (rf_wi M a k x)
  | .long, .long x => some (rf_wl M a k x)
  | .object _, .ref x => some (rf_wq M a k (some x))
  | .object _, .null => some (rf_wq M a k none)
  | .array _, .ref x => some (rf_wq M a k (some x))
  | .array _, .null => some (rf_wq M a k none)
  | .boolean, .int x => if narrow .boolean (.int x) = .int x ∧ fits .boolean (.int x) = true then some (rf_wi M a k x) else none
  | .byte, .int x => if narrow .byte (.int x) = .int x ∧ fits .byte (.int x) = true then some (rf_wi M a k x) else none
  | .char, .int x => if narrow .char (.int x) = .int x ∧ fits .char (.int x) = true then some (rf_wi M a k x) else none
  | .short, .int x => if narrow .short (.int x) = .int x ∧ fits .short (.int x) = true then some (rf_wi M a k x) else none
  | _, _ => none
theorem rf_up2 {α : Type} (f : Nat → Nat → α) {a k a' k' : Nat} (x : α) (h : a' ≠ a ∨ k' ≠ k) : va_up f a (va_up (f a) k x) a' k' = f a' k' := by
  unfold va_up
  by_cases ha : a' = a
  · subst ha
    have hk : k' ≠ k := h.resolve_left (fun q => q rfl)
    simp [hk]
  · simp [ha]
theorem rf_up2s {α : Type} (f : Nat → Nat → α) (a k : Nat) (x : α) : va_up f a (va_up (f a) k x) a k = x := by simp [va_up]
theorem rf_wi_ne (M : rf_M) {a k a' k' : Nat} (x : Int32) (h : a' ≠ a ∨ k' ≠ k) (ty : FieldType) : rf_rd (rf_wi M a k x) ty a' k' = rf_rd M ty a' k' := by
  cases ty <;> first | rfl | exact congrArg Value.int (rf_up2 M.1 x h)
theorem rf_wl_ne (M : rf_M) {a k a' k' : Nat} (x : Int64) (h : a' ≠ a ∨ k' ≠ k) (ty : FieldType) : rf_rd (rf_wl M a k x) ty a' k' = rf_rd M ty a' k' := by
  cases ty <;> first | rfl | exact congrArg Value.long (rf_up2 M.2.1 x h)
theorem rf_wq_ne (M : rf_M) {a k a' k' : Nat} (x : Option Nat) (h : a' ≠ a ∨ k' ≠ k) (ty : FieldType) : rf_rd (rf_wq M a k x) ty a' k' = rf_rd M ty a' k' := by
  cases ty <;> first | rfl | exact congrArg va_rf (rf_up2 M.2.2 x h)
/-- a writing: the slot has the value, all other slots are as before, the value fits -/
theorem rf_wr_ok {M M' : rf_M} {ty : FieldType} {a k : Nat} {v : Value} (h : rf_wr M ty a k v = some M') (ad : Nat → Nat) : rf_rd M' ty a k = v ∧ (∀ (ty' : FieldType) (a' k' : Nat), (a' ≠ a ∨ k' ≠ k) → rf_rd M' ty' a' k' = rf_rd M ty' a' k') ∧ narrow ty (rf_cv ad v) = rf_cv ad v ∧ fits ty (rf_cv ad v) = true := by
  unfold rf_wr at h
  split at h
  · cases h; exact ⟨congrArg Value.int (rf_up2s _ _ _ _), fun ty' a' k' q => rf_wi_ne M _ q ty', rfl, rfl⟩
  · cases h; exact ⟨congrArg Value.long (rf_up2s _ _ _ _), fun ty' a' k' q => rf_wl_ne M _ q ty', rfl, rfl⟩
  · cases h; exact ⟨congrArg va_rf (rf_up2s _ _ _ _), fun ty' a' k' q => rf_wq_ne M _ q ty', rfl, rfl⟩
  · cases h; exact ⟨congrArg va_rf (rf_up2s _ _ _ _), fun ty' a' k' q => rf_wq_ne M _ q ty', rfl, rfl⟩
  · cases h; exact ⟨congrArg va_rf (rf_up2s _ _ _ _), fun ty' a' k' q => rf_wq_ne M _ q ty', rfl, rfl⟩
  · cases h; exact ⟨congrArg va_rf (rf_up2s _ _ _ _), fun ty' a' k' q => rf_wq_ne M _ q ty', rfl, rfl⟩
  · split at h
    · rename_i hc
      cases h; exact ⟨congrArg Value.int (rf_up2s _ _ _ _), fun ty' a' k' q => rf_wi_ne M _ q ty', hc.1, hc.2⟩
    · cases h
  · split at h
    · rename_i hc
      cases h; exact ⟨congrArg Value.int (rf_up2s _ _ _ _), fun ty' a' k' q => rf_wi_ne M _ q ty', hc.1, hc.2⟩
    · cases h
  · split at h
    · rename_i hc
      cases h; exact ⟨congrArg Value.int (rf_up2s _ _ _ _), fun ty' a' k' q => rf_wi_ne M _ q ty', hc.1, hc.2⟩
    · cases h
  · split at h
    · rename_i hc
      cases h; exact ⟨congrArg Value.int (rf_up2s _ _ _ _), fun ty' a' k' q => rf_wi_ne M _ q ty', hc.1, hc.2⟩
    · cases h
  · cases h
/-- a new cell -/
def rf_nw (h : rf_H) (sh : rf_S) (N : Nat) : rf_H := ((va_up h.1.1 h.2.2.1 (fun _ => 0), va_up h.1.2.1 h.2.2.1 (fun _ => 0), va_up h.1.2.2 h.2.2.1 (fun _ => none)), va_up h.2.1 h.2.2.1 sh, h.2.2.1 + 1, h.2.2.2 + N)
def rf_lk (aux : List (Int × Nat)) (z : Int) : Option Nat := (aux.find? (fun q => q.1 == z)).map (fun q => q.2)
def rf_ky (a0 a ci : Nat) : Int := if a < a0 then -(ci : Int) - 1 else (ci : Int)
/-- the class of an object -/
def rf_ob (h : rf_H) (a : Nat) : Option Nat := if 0 < a ∧ a < h.2.2.1 then (match h.2.1 a with | .inl ci => some ci | .inr _ => none) else none
/-- the type and length of an array -/
def rf_aa (h : rf_H) (a : Nat) : Option (FieldType × Nat) := if 0 < a ∧ a < h.2.2.1 then (match h.2.1 a with | .inr q => some q | .inl _ => none) else none
def rf_cc (x y : Int32) : Jvm.ClassFile.Cond → Bool
  | .eq => decide (x = y)
  | .ne => !decide (x = y)
  | .lt => decide (x < y)
  | .ge => decide (y ≤ x)
  | .gt => decide (y < x)
  | .le => decide (x ≤ y)
/-- arithmetic: instructions of one byte on the stack alone -/
def rf_ar (I : Instr) (st : List Value) : Option (List Value) := match I, st with
  | .iadd, .int y :: .int x :: r => some (.int (x + y) :: r)
  | .isub, .int y :: .int x :: r => some (.int (x - y) :: r)
  | .imul, .int y :: .int x :: r => some (.int (x * y) :: r)
  | .iand, .int y :: .int x :: r => some (.int (x &&& y) :: r)
  | .ior, .int y :: .int x :: r => some (.int (x ||| y) :: r)
  | .ixor, .int y :: .int x :: r => some (.int (x ^^^ y) :: r)
  | .idiv, .int y :: .int x :: r => if y = 0 then none else some (.int (x / y) :: r)
  | .irem, .int y :: .int x :: r => if y = 0 then none else some (.int (x - x / y * y) :: r)
  | .ineg, .int x :: r => some (.int (-x) :: r)
  | .ishl, .int y :: .int x :: r => some (.int (x <<< (y &&& 31)) :: r)
  | .ishr, .int y :: .int x :: r => some (.int (x >>> (y &&& 31)) :: r)
  | .iushr, .int y :: .int x :: r => some (.int (x.toUInt32 >>> (y.toUInt32 &&& Int32.toUInt32 31)).toInt32 :: r)
  | .ladd, .long y :: .long x :: r => some (.long (x + y) :: r)
  | .lsub, .long y :: .long x :: r => some (.long (x - y) :: r)
  | .lmul, .long y :: .long x :: r => some (.long (x * y) :: r)
  | .land, .long y :: .long x :: r => some (.long (x &&& y) :: r)
  | .lor, .long y :: .long x :: r => some (.long (x ||| y) :: r)
  | .lxor, .long y :: .long x :: r => some (.long (x ^^^ y) :: r)
  | .ldiv, .long y :: .long x :: r => if y = 0 then none else some (.long (x / y) :: r)
  | .lrem, .long y :: .long x :: r => if y = 0 then none else some (.long (x - x / y * y) :: r)
  | .lneg, .long x :: r => some (.long (-x) :: r)
  | .lshl, .int y :: .long x :: r => some (.long (x <<< (y.toInt64 &&& 63)) :: r)
  | .lshr, .int y :: .long x :: r => some (.long (x >>> (y.toInt64 &&& 63)) :: r)
  | .lushr, .int y :: .long x :: r => some (.long (x.toUInt64 >>> (y.toInt64.toUInt64 &&& Int64.toUInt64 63)).toInt64 :: r)
  | .lcmp, .long y :: .long x :: r => some (.int (lg_cmp x y) :: r)
  | .i2l, .int x :: r => some (.long x.toInt64 :: r)
  | .l2i, .long x :: r => some (.int x.toInt32 :: r)
  | .i2b, .int x :: r => some (.int x.toInt8.toInt32 :: r)
  | .i2s, .int x :: r => some (.int x.toInt16.toInt32 :: r)
  | .i2c, .int x :: r => some (.int (x.toUInt32 % 65536).toInt32 :: r)
  | .dup, v :: r => if v.category = 1 then some (v :: v :: r) else none
  | .pop, v :: r => if v.category = 1 then some r else none
  | .pop2, v :: r => if v.category = 2 then some r else none
  | .dup_x1, v :: w :: r => if v.category = 1 ∧ w.category = 1 then some (v :: w :: v :: r) else none
  | .dup_x2, v :: w :: u :: r => if v.category = 1 ∧ w.category = 1 ∧ u.category = 1 then some (v :: w :: u :: v :: r) else none
  | .dup2, v :: w :: r => if v.category = 1 ∧ w.category = 1 then some (v :: w :: v :: w :: r) else if v.category = 2 then some (v :: v :: w :: r) else none
  | .aconst_null, r => some (.null :: r)
  | _, _ => none
def rf_s1 (ls : rf_L) (i : Nat) (v : Value) : rf_L := (i, v) :: ls.filter (fun q => !(q.1 == i) && !(q.1 + 1 == i && q.2.category == 2))
def rf_s2 (ls : rf_L) (i : Nat) (v : Value) : rf_L := (i, v) :: ls.filter (fun q => !(q.1 == i) && (!(q.1 == i + 1) && !(q.1 + 1 == i && q.2.category == 2)))
def rf_ld (ls : rf_L) (i : Nat) : Option Value := (ls.find? (fun q => q.1 == i)).map (fun q => q.2)
def rf_li (ls : rf_L) (i : Nat) (st : List Value) : Option (List Value) := match rf_ld ls i with
  | some (.int x) => some (.int x :: st)
  | _ => none
def rf_ll (ls : rf_L) (i : Nat) (st : List Value) : Option (List Value) := match rf_ld ls i with
  | some (.long x) => some (.long x :: st)
  | _ => none
def rf_la (ls : rf_L) (i : Nat) (st : List Value) : Option (List Value) := match rf_ld ls i with
  | some (.ref x) => some (.ref x :: st)
  | some .null => some (.null :: st)
  | _ => none
/-- constants, loads -/
def rf_lo (I : Instr) (aux : List (Int × Nat)) (ls : rf_L) (st : List Value) : Option (List Value) := match I with
  | .iconst n => some (.int (Int32.ofInt n) :: st)
  | .bipush n => some (.int (Int8.ofInt n).toInt32 :: st)
  | .sipush n => some (.int (Int16.ofInt n).toInt32 :: st)
  | .lconst n => some (.long (Int64.ofNat (n : Nat)) :: st)
  | .iload_n k => rf_li ls (k : Nat) st
  | .iload k => rf_li ls k st
  | .lload_n k => rf_ll ls (k : Nat) st
  | .lload k => rf_ll ls k st
  | .aload_n k => rf_la ls (k : Nat) st
  | .aload k => rf_la ls k st
  | _ => none
/-- stores, iinc -/
def rf_so (I : Instr) (nL : Nat) (ls : rf_L) (st : List Value) : Option (rf_L × List Value) := match I, st with
  | .istore_n k, .int x :: r => if (k : Nat) < nL then some (rf_s1 ls (k : Nat) (.int x), r) else none
  | .istore k, .int x :: r => if k < nL then some (rf_s1 ls k (.int x), r) else none
  | .lstore_n k, .long x :: r => if (k : Nat) + 1 < nL then some (rf_s2 ls (k : Nat) (.long x), r) else none
  | .lstore k, .long x :: r => if k + 1 < nL then some (rf_s2 ls k (.long x), r) else none
  | .astore_n k, .ref x :: r => if (k : Nat) < nL then some (rf_s1 ls (k : Nat) (.ref x), r) else none
  | .astore k, .ref x :: r => if k < nL then some (rf_s1 ls k (.ref x), r) else none
  | .astore_n k, .null :: r => if (k : Nat) < nL then some (rf_s1 ls (k : Nat) .null, r) else none
  | .astore k, .null :: r => if k < nL then some (rf_s1 ls k .null, r) else none
  | .iinc k n, r => match rf_ld ls k with
    | some (.int x) => if k < nL then some (rf_s1 ls k (.int (x + Int32.ofInt n)), r) else none
    | _ => none
  | _, _ => none
def rf_sw : List (Int × Nat) → Nat → Int → Nat
  | [], d, _ => d
  | q :: r, d, x => if q.1 = x then q.2 else rf_sw r d x
def rf_tg (aux : List (Int × Nat)) : Nat := (aux.headD (0, 0)).2
/-- branches: the next place, and the stack -/
def rf_br (a0 : Nat) (I : Instr) (aux : List (Int × Nat)) (pc : Nat) (st : List Value) : Option (Nat × List Value) := match I, st with
  | .goto _, r => some (rf_tg aux, r)
  | .ifCond c _, .int x :: r => some (if rf_cc x 0 c = true then rf_tg aux else pc + 3, r)
  | .if_icmp c _, .int y :: .int x :: r => some (if rf_cc x y c = true then rf_tg aux else pc + 3, r)
  | .ifnull _, .ref _ :: r => some (pc + 3, r)
  | .ifnull _, .null :: r => some (rf_tg aux, r)
  | .ifnonnull _, .ref _ :: r => some (rf_tg aux, r)
  | .ifnonnull _, .null :: r => some (pc + 3, r)
  | .if_acmp .eq _, .ref y :: .ref x :: r => if x < a0 ∨ y < a0 then none else some (if x = y then rf_tg aux else pc + 3, r)
  | .if_acmp .ne _, .ref y :: .ref x :: r => if x < a0 ∨ y < a0 then none else some (if x = y then pc + 3 else rf_tg aux, r)
  | .if_acmp .eq _, .null :: .null :: r => some (rf_tg aux, r)
  | .if_acmp .eq _, .null :: .ref _ :: r => some (pc + 3, r)
  | .if_acmp .eq _, .ref _ :: .null :: r => some (pc + 3, r)
  | .if_acmp .ne _, .null :: .null :: r => some (pc + 3, r)
  | .if_acmp .ne _, .null :: .ref _ :: r => some (rf_tg aux, r)
  | .if_acmp .ne _, .ref _ :: .null :: r => some (rf_tg aux, r)
  | .tableswitch _ lo hi _, .int x :: r => if x.toInt < lo ∨ hi < x.toInt then some (rf_tg aux, r) else (match aux[(x.toInt - lo).toNat + 1]? with | some q => some (q.2, r) | none => none)
  | .lookupswitch _ _, .int x :: r => some (rf_sw aux.tail (rf_tg aux) x.toInt, r)
  | _, _ => none
/-- the answer -/
def rf_rt (I : Instr) (ret : Option FieldType) (st : List Value) : Option (Option Value) := match I, ret, st with
  | .ireturn, some .int, [.int v] => some (some (.int v))
  | .ireturn, some .boolean, [.int v] => if narrow .boolean (.int v) = .int v then some (some (.int v)) else none
  | .ireturn, some .byte, [.int v] => if narrow .byte (.int v) = .int v then some (some (.int v)) else none
  | .ireturn, some .char, [.int v] => if narrow .char (.int v) = .int v then some (some (.int v)) else none
  | .ireturn, some .short, [.int v] => if narrow .short (.int v) = .int v then some (some (.int v)) else none
  | .lreturn, some .long, [.long v] => some (some (.long v))
  | .areturn, some (.object _), [.ref v] => some (some (.ref v))
  | .areturn, some (.object _), [.null] => some (some .null)
  | .areturn, some (.array _), [.ref v] => some (some (.ref v))
  | .areturn, some (.array _), [.null] => some (some .null)
  | .return_, none, [] => some none
  | _, _, _ => none
/-- an array's element -/
def rf_el (h : rf_H) (ty : FieldType) (a : Nat) (j : Int32) : Option Value := match rf_aa h a with
  | some q => if q.1 = ty ∧ ¬ (j < 0 ∨ q.2 ≤ j.toNatClampNeg) then some (rf_rd h.1 ty a j.toNatClampNeg) else none
  | none => none
/-- heap instructions: the stack and the heap behind them -/
def rf_hp (cx : rf_C) (I : Instr) (aux : List (Int × Nat)) (st : List Value) (h : rf_H) : Option (List Value × rf_H) := match I, st with
  | .getfield _, .ref a :: r => match rf_ob h a with
    | some ci => match rf_lk aux (rf_ky cx.2.2.2.2 a ci) with
      | some k => some (rf_rd h.1 (cx.2.2.1 (rf_ky cx.2.2.2.2 a ci) k) a k :: r, h)
      | none => none
    | none => none
  | .putfield _, v :: .ref a :: r => if a < cx.2.2.2.2 then none else match rf_ob h a with
    | some ci => match rf_lk aux (ci : Int) with
      | some k => match rf_wr h.1 (cx.2.2.1 (ci : Int) k) a k v with
        | some M => some (r, (M, h.2))
        | none => none
      | none => none
    | none => none
  | .iaload, .int j :: .ref a :: r => match rf_el h .int a j with
    | some v => some (v :: r, h)
    | none => none
  | .laload, .int j :: .ref a :: r => match rf_el h .long a j with
    | some v => some (v :: r, h)
    | none => none
  | .baload, .int j :: .ref a :: r => match rf_el h .byte a j with
    | some v => some (v :: r, h)
    | none => match rf_el h .boolean a j with
      | some v => some (v :: r, h)
      | none => none
  | .caload, .int j :: .ref a :: r => match rf_el h .char a j with
    | some v => some (v :: r, h)
    | none => none
  | .saload, .int j :: .ref a :: r => match rf_el h .short a j with
    | some v => some (v :: r, h)
    | none => none
  | .aaload, .int j :: .ref a :: r => match rf_aa h a with
    | some (.object C, n) => match rf_el h (.object C) a j with
      | some v => some (v :: r, h)
      | none => none
    | some (.array t, n) => match rf_el h (.array t) a j with
      | some v => some (v :: r, h)
      | none => none
    | _ => none
  | .iastore, .int x :: .int j :: .ref a :: r => if a < cx.2.2.2.2 then none else match rf_el h .int a j with
    | some _ => some (r, (rf_wi h.1 a j.toNatClampNeg x, h.2))
    | none => none
  | .lastore, .long x :: .int j :: .ref a :: r => if a < cx.2.2.2.2 then none else match rf_el h .long a j with
    | some _ => some (r, (rf_wl h.1 a j.toNatClampNeg x, h.2))
    | none => none
  | .bastore, .int x :: .int j :: .ref a :: r => if a < cx.2.2.2.2 then none else match rf_el h .byte a j with
    | some _ => some (r, (rf_wi h.1 a j.toNatClampNeg x.toInt8.toInt32, h.2))
    | none => match rf_el h .boolean a j with
      | some _ => some (r, (rf_wi h.1 a j.toNatClampNeg (x &&& 1), h.2))
      | none => none
  | .castore, .int x :: .int j :: .ref a :: r => if a < cx.2.2.2.2 then none else match rf_el h .char a j with
    | some _ => some (r, (rf_wi h.1 a j.toNatClampNeg x.toUInt32.toUInt16.toUInt32.toInt32, h.2))
    | none => none
  | .aastore, .ref v :: .int j :: .ref a :: r => if a < cx.2.2.2.2 ∨ v < cx.2.2.2.2 then none else match rf_aa h a, rf_ob h v with
    | some (.object C, n), some ci => if (cx.2.2.2.1[ci]?).map (fun q => q.1) = some C ∧ ¬ (j < 0 ∨ n ≤ j.toNatClampNeg) then some (r, (rf_wq h.1 a j.toNatClampNeg (some v), h.2)) else none
    | _, _ => none
  | .aastore, .null :: .int j :: .ref a :: r => if a < cx.2.2.2.2 then none else match rf_aa h a with
    | some (.object C, n) => if ¬ (j < 0 ∨ n ≤ j.toNatClampNeg) then some (r, (rf_wq h.1 a j.toNatClampNeg none, h.2)) else none
    | _ => none
  | .arraylength, .ref a :: r => match rf_aa h a with
    | some q => some (.int (nI q.2) :: r, h)
    | none => none
  | .new _, r => match aux with
    | [(_, ci)] => match cx.2.2.2.1[ci]? with
      | some q => some (.ref h.2.2.1 :: r, rf_nw h (.inl ci) q.2.2)
      | none => none
    | _ => none
  | .newarray t, .int n :: r => if ¬ n < 0 ∧ n.toNatClampNeg * componentBytes (newarray.typeOf t) ≤ 536870912 ∧ (newarray.typeOf t ≠ .float ∧ newarray.typeOf t ≠ .double) then some (.ref h.2.2.1 :: r, rf_nw h (.inr (newarray.typeOf t, n.toNatClampNeg)) n.toNatClampNeg) else none
  | .anewarray _, .int n :: r => match aux with
    | [(_, ci)] => match cx.2.2.2.1[ci]? with
      | some q => if ¬ n < 0 ∧ n.toNatClampNeg * 4 ≤ 536870912 then some (.ref h.2.2.1 :: r, rf_nw h (.inr (.object q.1, n.toNatClampNeg)) n.toNatClampNeg) else none
      | none => none
    | _ => none
  | _, _ => none
/-- calls of the JDK that the kit has rows for: Object(), arraycopy of ints and longs, Math.min and Math.max of ints; by their kind -/
def rf_ok8 (r : List Value) (d : Nat × Nat) (w : Nat) : Bool := decide (1 ≤ d.1) && decide ((r.map fun v => v.category).sum + w ≤ d.2)
def rf_bi (cx : rf_C) (kd : Int) (d : Nat × Nat) (st : List Value) (h : rf_H) : Option (List Value × rf_H) :=
  if kd = 10 then (match st with
    | .ref _ :: r => if rf_ok8 r d 12 = true then some (r, h) else none
    | _ => none)
  else if kd = 11 then (match st with
    | .int n :: .int dp :: .ref a1 :: .int sp :: .ref a2 :: r => if rf_ok8 r d 18 = true ∧ ¬ a1 < cx.2.2.2.2 ∧ ¬ a2 < cx.2.2.2.2 ∧ ¬ sp < 0 ∧ ¬ dp < 0 ∧ ¬ n < 0 then (match rf_aa h a1, rf_aa h a2 with
      | some (.int, n1), some (.int, n2) => if sp.toNatClampNeg + n.toNatClampNeg ≤ n2 ∧ dp.toNatClampNeg + n.toNatClampNeg ≤ n1 then some (r, ((va_up h.1.1 a1 (va_cpy (h.1.1 a2) (h.1.1 a1) sp.toNatClampNeg dp.toNatClampNeg n.toNatClampNeg), h.1.2.1, h.1.2.2), h.2)) else none
      | some (.long, n1), some (.long, n2) => if sp.toNatClampNeg + n.toNatClampNeg ≤ n2 ∧ dp.toNatClampNeg + n.toNatClampNeg ≤ n1 then some (r, ((h.1.1, va_up h.1.2.1 a1 (va_cpy (h.1.2.1 a2) (h.1.2.1 a1) sp.toNatClampNeg dp.toNatClampNeg n.toNatClampNeg), h.1.2.2), h.2)) else none
      | _, _ => none) else none
    | _ => none)
  else if kd = 12 then (match st with
    | .int y :: .int x :: r => if rf_ok8 r d 13 = true then some (.int (if y < x then y else x) :: r, h) else none
    | _ => none)
  else if kd = 13 then (match st with
    | .int y :: .int x :: r => if rf_ok8 r d 13 = true then some (.int (if x < y then y else x) :: r, h) else none
    | _ => none)
  else none
/-- calls: the callee, its arguments, what lies below them. aux: (kind, number of parameters), then (key of the receiver's class, callee) -/
def rf_ca (cx : rf_C) (I : Instr) (aux : List (Int × Nat)) (st : List Value) (h : rf_H) : Option (Nat × List Value × List Value) := match aux with
  | q :: tg => (match I, st.drop q.2 with
    | .invokevirtual _, .ref a :: r => (match rf_ob h a with
      | some ci => (match rf_lk tg (rf_ky cx.2.2.2.2 a ci) with
        | some j => if q.2 ≤ st.length ∧ (r.map fun v => v.category).sum ≤ 8 then some (j, .ref a :: (st.take q.2).reverse, r) else none
        | none => none)
      | none => none)
    | .invokespecial _, .ref a :: r => (match tg with
      | [(_, j)] => if q.2 ≤ st.length ∧ (r.map fun v => v.category).sum ≤ 8 then some (j, .ref a :: (st.take q.2).reverse, r) else none
      | _ => none)
    | .invokestatic _, r => (match tg with
      | [(_, j)] => if q.2 ≤ st.length ∧ (r.map fun v => v.category).sum ≤ 8 then some (j, (st.take q.2).reverse, r) else none
      | _ => none)
    | _, _ => none)
  | [] => none
def rf_len : Instr → Nat
  | .bipush _ => 2
  | .iload _ => 2
  | .lload _ => 2
  | .aload _ => 2
  | .istore _ => 2
  | .lstore _ => 2
  | .astore _ => 2
  | .newarray _ => 2
  | .ldc _ => 2
  | .sipush _ => 3
  | .iinc _ _ => 3
  | .goto _ => 3
  | .ifCond _ _ => 3
  | .if_icmp _ _ => 3
  | .if_acmp _ _ => 3
  | .ifnull _ => 3
  | .ifnonnull _ => 3
  | .getfield _ => 3
  | .putfield _ => 3
  | .getstatic _ => 3
  | .new _ => 3
  | .anewarray _ => 3
  | .ldc2_w _ => 3
  | .invokevirtual _ => 3
  | .invokespecial _ => 3
  | .invokestatic _ => 3
  | _ => 1
/-- what kind of instruction: 0 arithmetic, 1 loads, 2 stores, 3 branches, 4 heap, 5 calls, 6 answers, 7 constants of the pool -/
def rf_kd : Instr → Nat
  | .iconst _ => 1
  | .bipush _ => 1
  | .sipush _ => 1
  | .lconst _ => 1
  | .iload_n _ => 1
  | .iload _ => 1
  | .lload_n _ => 1
  | .lload _ => 1
  | .aload_n _ => 1
  | .aload _ => 1
  | .istore_n _ => 2
  | .istore _ => 2
  | .lstore_n _ => 2
  | .lstore _ => 2
  | .astore_n _ => 2
  | .astore _ => 2
  | .iinc _ _ => 2
  | .goto _ => 3
  | .ifCond _ _ => 3
  | .if_icmp _ _ => 3
  | .if_acmp _ _ => 3
  | .ifnull _ => 3
  | .ifnonnull _ => 3
  | .tableswitch _ _ _ _ => 3
  | .lookupswitch _ _ => 3
  | .getfield _ => 4
  | .putfield _ => 4
  | .iaload => 4
  | .laload => 4
  | .baload => 4
  | .caload => 4
  | .saload => 4
  | .aaload => 4
  | .iastore => 4
  | .lastore => 4
  | .bastore => 4
  | .castore => 4
  | .aastore => 4
  | .arraylength => 4
  | .new _ => 4
  | .newarray _ => 4
  | .anewarray _ => 4
  | .invokevirtual _ => 5
  | .invokespecial _ => 5
  | .invokestatic _ => 5
  | .ireturn => 6
  | .lreturn => 6
  | .areturn => 6
  | .return_ => 6
  | .ldc _ => 7
  | .ldc2_w _ => 7
  | .getstatic _ => 7
  | _ => 0
/-- constants of the pool: aux tells the value; (0, k): int k; (1, k): long k; (2, a): the cell a; a first part of minus one: negative -/
def rf_po (aux : List (Int × Nat)) (st : List Value) : Option (List Value) := match aux with
  | [(0, k)] => some (.int (Int32.ofNat k) :: st)
  | [(1, k)] => some (.long (Int64.ofNat k) :: st)
  | [(2, a)] => some (.ref a :: st)
  | [(3, _)] => some (.null :: st)
  | _ => none
def rf_ex (cx : rf_C) (d : Nat × Nat) (i pc : Nat) (I : rf_I) (ls : rf_L) (st : List Value) (h : rf_H) : Option rf_O := match rf_kd I.1 with
  | 0 => (rf_ar I.1 st).map (fun q => .inl (pc + 1, ls, q, h))
  | 1 => (rf_lo I.1 I.2 ls st).map (fun q => .inl (pc + rf_len I.1, ls, q, h))
  | 2 => (rf_so I.1 (cx.2.1 i).2.2.1 ls st).map (fun q => .inl (pc + rf_len I.1, q.1, q.2, h))
  | 3 => (rf_br cx.2.2.2.2 I.1 I.2 pc st).map (fun q => .inl (q.1, ls, q.2, h))
  | 4 => (rf_hp cx I.1 I.2 st h).map (fun q => .inl (pc + rf_len I.1, ls, q.1, q.2))
  | 5 => if 10 ≤ (I.2.headD (0, 0)).1 then (rf_bi cx (I.2.headD (0, 0)).1 d st h).map (fun q => .inl (pc + 3, ls, q.1, q.2)) else (rf_ca cx I.1 I.2 st h).map (fun q => .inr (.inl q))
  | 6 => (rf_rt I.1 (cx.2.1 i).2.2.2 st).map (fun v => .inr (.inr v))
  | 7 => (rf_po I.2 st).map (fun q => .inl (pc + rf_len I.1, ls, q, h))
  | _ => none
/-- the evaluator: fuel, room (frames, locals), method, place, locals, stack, heap -/
def rf_ev (cx : rf_C) : Nat → Nat × Nat → Nat → Nat → rf_L → List Value → rf_H → Option (Option Value × rf_H)
  | 0, _, _, _, _, _, _ => none
  | n + 1, d, i, pc, ls, st, h => match cx.1 i pc with
    | none => none
    | some I => match rf_ex cx d i pc I ls st h with
      | none => none
      | some (.inl q) => rf_ev cx n d i q.1 q.2.1 q.2.2.1 q.2.2.2
      | some (.inr (.inl q)) => if 1 ≤ d.1 ∧ (cx.2.1 q.1).2.2.1 + 19 ≤ d.2 ∧ (lg_sl q.2.1).length ≤ (cx.2.1 q.1).2.2.1 then (match rf_ev cx n (d.1 - 1, d.2 - ((cx.2.1 q.1).2.2.1 + 19)) q.1 0 (lv_args 0 q.2.1) [] h with
        | none => none
        | some r => rf_ev cx n d i (pc + 3) ls (r.1.toList ++ q.2.2) r.2) else none
      | some (.inr (.inr v)) => some (v, h)
