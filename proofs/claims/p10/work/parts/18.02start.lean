abbrev gS : Type := (Nat → rf_S) × Nat × Nat
/-- a is an object of class ci that was made -/
def go (cx : rf_C) (S : gS) (a ci : Nat) : Prop := cx.2.2.2.2 ≤ a ∧ 0 < a ∧ a < S.2.1 ∧ S.1 a = .inl ci
/-- a is an array of n elements of type ty that was made -/
def ga (cx : rf_C) (S : gS) (a : Nat) (ty : FieldType) (n : Nat) : Prop := cx.2.2.2.2 ≤ a ∧ 0 < a ∧ a < S.2.1 ∧ S.1 a = .inr (ty, n)
section GROW

variable {cx : rf_C} {d : Nat × Nat} {i pc : Nat} {ls : rf_L} {st : List Value} {h : rf_H} {Q : Option Value → rf_H → Prop} {I : Nat → Nat → Int32} {L : Nat → Nat → Int64} {R : Nat → Nat → Option Nat} {S : gS} {aux : List (Int × Nat)}

theorem go.ob {a ci : Nat} (hs : go cx S a ci) (M : rf_M) : rf_ob (M, S) a = some ci := by
  unfold rf_ob
  rw [if_pos ⟨hs.2.1, hs.2.2.1⟩]
  show (match S.1 a with | .inl ci => some ci | .inr _ => none) = some ci
  rw [hs.2.2.2]
theorem ga.aa {a n : Nat} {ty : FieldType} (hs : ga cx S a ty n) (M : rf_M) : rf_aa (M, S) a = some (ty, n) := by
  unfold rf_aa
  rw [if_pos ⟨hs.2.1, hs.2.2.1⟩]
  show (match S.1 a with | .inr q => some q | .inl _ => none) = some (ty, n)
  rw [hs.2.2.2]
theorem ga.el {a n : Nat} {ty : FieldType} (hs : ga cx S a ty n) (M : rf_M) {j : Int32} (hj : ¬ (j < 0 ∨ n ≤ j.toNatClampNeg)) : rf_el (M, S) ty a j = some (rf_rd M ty a j.toNatClampNeg) := by
  unfold rf_el
  rw [hs.aa M]
  show (if ty = ty ∧ ¬ (j < 0 ∨ n ≤ j.toNatClampNeg) then _ else _) = _
  rw [if_pos ⟨rfl, hj⟩]
theorem go.ky {a ci : Nat} (hs : go cx S a ci) : rf_ky cx.2.2.2.2 a ci = (ci : Int) := if_neg (Nat.not_lt.mpr hs.1)
/-- arithmetic, loads, stores, constants: one row a kind -/
theorem g0 {J : Instr} {st' : List Value} (hf : cx.1 i pc = some (J, aux)) (hk : rf_kd J = 0) (he : rf_ar J st = some st') (k : gx cx d i (pc + 1) ls st' h Q) : gx cx d i pc ls st h Q := by
  refine gx_step hf (pc' := pc + 1) (ls' := ls) (st' := st') (h' := h) ?_ k
  unfold rf_ex
  simp only [hk, he, Option.map_some]
theorem g1 {J : Instr} {st' : List Value} {n : Nat} (hf : cx.1 i pc = some (J, aux)) (hk : rf_kd J = 1) (hn : rf_len J = n) (he : rf_lo J aux ls st = some st') (k : gx cx d i (pc + n) ls st' h Q) : gx cx d i pc ls st h Q := by
  refine gx_step hf (pc' := pc + n) (ls' := ls) (st' := st') (h' := h) ?_ k
  unfold rf_ex
  simp only [hk, he, hn, Option.map_some]
theorem g2 {J : Instr} {ls' : rf_L} {st' : List Value} {n : Nat} (hf : cx.1 i pc = some (J, aux)) (hk : rf_kd J = 2) (hn : rf_len J = n) (he : rf_so J (cx.2.1 i).2.2.1 ls st = some (ls', st')) (k : gx cx d i (pc + n) ls' st' h Q) : gx cx d i pc ls st h Q := by
  refine gx_step hf (pc' := pc + n) (ls' := ls') (st' := st') (h' := h) ?_ k
  unfold rf_ex
  simp only [hk, he, hn, Option.map_some]
theorem g3 {J : Instr} {pc' : Nat} {st' : List Value} (hf : cx.1 i pc = some (J, aux)) (hk : rf_kd J = 3) (he : rf_br cx.2.2.2.2 J aux pc st = some (pc', st')) (k : gx cx d i pc' ls st' h Q) : gx cx d i pc ls st h Q := by
  refine gx_step hf (pc' := pc') (ls' := ls) (st' := st') (h' := h) ?_ k
  unfold rf_ex
  simp only [hk, he, Option.map_some]
theorem g7 {J : Instr} {st' : List Value} {n : Nat} (hf : cx.1 i pc = some (J, aux)) (hk : rf_kd J = 7) (hn : rf_len J = n) (he : rf_po aux st = some st') (k : gx cx d i (pc + n) ls st' h Q) : gx cx d i pc ls st h Q := by
  refine gx_step hf (pc' := pc + n) (ls' := ls) (st' := st') (h' := h) ?_ k
  unfold rf_ex
  simp only [hk, he, hn, Option.map_some]
theorem g4 {J : Instr} {st' : List Value} {h' : rf_H} {n : Nat} (hf : cx.1 i pc = some (J, aux)) (hk : rf_kd J = 4) (hn : rf_len J = n) (he : rf_hp cx J aux st h = some (st', h')) (k : gx cx d i (pc + n) ls st' h' Q) : gx cx d i pc ls st h Q := by
  refine gx_step hf (pc' := pc + n) (ls' := ls) (st' := st') (h' := h') ?_ k
  unfold rf_ex
  simp only [hk, he, hn, Option.map_some]
/-- branches: two ways -/
theorem g_if {c : Jvm.ClassFile.Cond} {o : Int} {x : Int32} (hf : cx.1 i pc = some (.ifCond c o, aux)) (kt : rf_cc x 0 c = true → gx cx d i (rf_tg aux) ls st h Q) (kf : ¬ rf_cc x 0 c = true → gx cx d i (pc + 3) ls st h Q) : gx cx d i pc ls (.int x :: st) h Q := by
  by_cases hc : rf_cc x 0 c = true
  · exact g3 hf rfl (by show some (if rf_cc x 0 c = true then rf_tg aux else pc + 3, st) = _; rw [if_pos hc]) (kt hc)
  · exact g3 hf rfl (by show some (if rf_cc x 0 c = true then rf_tg aux else pc + 3, st) = _; rw [if_neg hc]) (kf hc)
theorem g_ic {c : Jvm.ClassFile.Cond} {o : Int} {x y : Int32} (hf : cx.1 i pc = some (.if_icmp c o, aux)) (kt : rf_cc x y c = true → gx cx d i (rf_tg aux) ls st h Q) (kf : ¬ rf_cc x y c = true → gx cx d i (pc + 3) ls st h Q) : gx cx d i pc ls (.int y :: .int x :: st) h Q := by
  by_cases hc : rf_cc x y c = true
  · exact g3 hf rfl (by show some (if rf_cc x y c = true then rf_tg aux else pc + 3, st) = _; rw [if_pos hc]) (kt hc)
  · exact g3 hf rfl (by show some (if rf_cc x y c = true then rf_tg aux else pc + 3, st) = _; rw [if_neg hc]) (kf hc)
/-- fields -/
theorem g_gf {idx a ci k : Nat} {v : Value} (hf : cx.1 i pc = some (.getfield idx, aux)) (hs : go cx S a ci) (hl : rf_lk aux (ci : Int) = some k) (hv : rf_rd (I, L, R) (cx.2.2.1 (ci : Int) k) a k = v) (kk : gx cx d i (pc + 3) ls (v :: st) ((I, L, R), S) Q) : gx cx d i pc ls (.ref a :: st) ((I, L, R), S) Q := by
  refine g4 hf rfl rfl (st' := v :: st) (h' := ((I, L, R), S)) ?_ kk
  show (match rf_ob ((I, L, R), S) a with
    | some ci => match rf_lk aux (rf_ky cx.2.2.2.2 a ci) with
      | some k => some (rf_rd (I, L, R) (cx.2.2.1 (rf_ky cx.2.2.2.2 a ci) k) a k :: st, ((I, L, R), S))
      | none => none
    | none => none) = _
  rw [hs.ob]
  dsimp only
  rw [hs.ky, hl]
  dsimp only
  rw [hv]
theorem g_pf {idx a ci k : Nat} {v : Value} {M : rf_M} (hf : cx.1 i pc = some (.putfield idx, aux)) (hs : go cx S a ci) (hl : rf_lk aux (ci : Int) = some k) (hv : rf_wr (I, L, R) (cx.2.2.1 (ci : Int) k) a k v = some M) (kk : gx cx d i (pc + 3) ls st (M, S) Q) : gx cx d i pc ls (v :: .ref a :: st) ((I, L, R), S) Q := by
  refine g4 hf rfl rfl (st' := st) (h' := (M, S)) ?_ kk
  show (if a < cx.2.2.2.2 then none else match rf_ob ((I, L, R), S) a with
    | some ci => match rf_lk aux (ci : Int) with
      | some k => match rf_wr (I, L, R) (cx.2.2.1 (ci : Int) k) a k v with
        | some M => some (st, (M, S))
        | none => none
      | none => none
    | none => none) = _
  rw [if_neg (Nat.not_lt.mpr hs.1), hs.ob]
  dsimp only
  rw [hl]
  dsimp only
  rw [hv]
end GROW
/-! A RUN THAT NEVER LOOKS INTO CELL 1 (its shape is a poison: a class that no table names) goes the same way whatever lies there -/
def pt_M (row : Nat → Int32) (M : rf_M) : rf_M := (va_up M.1 1 row, M.2)
def pt_H (row : Nat → Int32) (sh : rf_S) (h : rf_H) : rf_H := (pt_M row h.1, va_up h.2.1 1 sh, h.2.2)
def pt_P : Nat := 999
theorem up_comm {α : Type} (f : Nat → α) {a b : Nat} (v w : α) (h : a ≠ b) : va_up (va_up f a v) b w = va_up (va_up f b w) a v := by
  funext j
  unfold va_up
  by_cases h1 : j = b
  · have h2 : ¬ j = a := fun z => h (z.symm.trans h1)
    simp [h1, h2, Ne.symm h]
  · simp [h1]
theorem pt_rd {row : Nat → Int32} {M : rf_M} {a : Nat} (ha : a ≠ 1) (ty : FieldType) (k : Nat) : rf_rd (pt_M row M) ty a k = rf_rd M ty a k := by
  cases ty <;> simp [rf_rd, pt_M, va_up, ha]
