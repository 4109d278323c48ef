/-! THE REFLECTION IS TRUE: the heap -/
/-- a cell that the law or the class made -/
def rf_at (D : va_G) (cx : rf_C) (ad : Nat → Nat) (U : State) (H : Heap) (M : rf_M) (a : Nat) (sh : rf_S) : Prop := match sh with
  | .inl ci => ∃ r : vw_C, cx.2.2.2.1[ci]? = some r ∧ t_OB (ad a) (D.1 ci) r.2.2 (D.2 ci) H (fun k => rf_cv ad (rf_rd M (cx.2.2.1 (ci : Int) k) a k))
  | .inr q => ∃ cA : ClassId, H[ad a]? = some (arrV cA q.2 (fun j => rf_cv ad (rf_rd M q.1 a j))) ∧ ArrOfT U cA q.1 ∧ va_RA U cA q.1
/-- a cell that is only read: a constant text, its bytes, the script -/
def rf_ao (ocl : List vw_C) (cx : rf_C) (ad : Nat → Nat) (U : State) (H : Heap) (M : rf_M) (a : Nat) (sh : rf_S) : Prop := match sh with
  | .inl ci => ∃ r : vw_C, ocl[ci]? = some r ∧ (∃ cell : Cell, H[ad a]? = some cell ∧ cell.vm.isStatics = false ∧ U.vm.findClass r.1 = some cell.cls) ∧ ∀ k, k < r.2.2 → ∃ (cf : ClassId) (kf : Class) (fi : Nat) (f : Field) (cell : Cell), U.fieldFound? (r.2.1 k).1 (r.2.1 k).2.1 (r.2.1 k).2.2.1 = some (cf, kf, fi, f) ∧ f.isStatic = false ∧ H[ad a]? = some cell ∧ cell.vm ≠ .unknown ∧ cell.slots[f.slot]? = some (rf_cv ad (rf_rd M (cx.2.2.1 (-(ci : Int) - 1) k) a k))
  | .inr q => ∃ cell : Cell, H[ad a]? = some cell ∧ U.isArrayOf cell q.1 ∧ cell.vm ≠ .unknown ∧ q.2 ≤ cell.slots.size ∧ cell.slots.size.toInt32 = nI q.2 ∧ ∀ j, j < q.2 → cell.slots[j]? = some (rf_cv ad (rf_rd M q.1 a j))
/-- the machine's heap holds the abstract heap -/
def rf_R (ocl : List vw_C) (OH : Heap) (D : va_G) (cx : rf_C) (ad : Nat → Nat) (base : Nat) (U : State) (H : Heap) (h : rf_H) : Prop :=
  (∀ a, cx.2.2.2.2 ≤ a → a < h.2.2.1 → rf_at D cx ad U H h.1 a (h.2.1 a)) ∧ (∀ a, 0 < a → a < cx.2.2.2.2 → rf_ao ocl cx ad U H h.1 a (h.2.1 a)) ∧ H.size = base + (h.2.2.1 - cx.2.2.2.2) ∧ cx.2.2.2.2 ≤ h.2.2.1 ∧ ∀ q : Nat, q < base → H[q]? = OH[q]?
def rf_A (cx : rf_C) (ad : Nat → Nat) (base : Nat) : Prop := (∀ a, cx.2.2.2.2 ≤ a → ad a = base + (a - cx.2.2.2.2)) ∧ (∀ a, 0 < a → a < cx.2.2.2.2 → ad a < base) ∧ 0 < cx.2.2.2.2
theorem rf_at.kept {D : va_G} {cx : rf_C} {ad : Nat → Nat} {U : State} {H H' : Heap} {M M' : rf_M} {a : Nat} {sh : rf_S} (h : rf_at D cx ad U H M a sh) (hq : H'[ad a]? = H[ad a]?) (hM : ∀ (ty : FieldType) (k : Nat), rf_rd M' ty a k = rf_rd M ty a k) : rf_at D cx ad U H' M' a sh := by
  cases sh with
  | inl ci =>
    obtain ⟨r, h1, h2⟩ := h
    exact ⟨r, h1, (h2.kept hq).to (fun k _ => by rw [hM])⟩
  | inr q =>
    obtain ⟨cA, h1, h2⟩ := h
    refine ⟨cA, ?_, h2⟩
    rw [hq, h1]
    simp only [hM]
theorem rf_ao.kept {ocl : List vw_C} {cx : rf_C} {ad : Nat → Nat} {U : State} {H H' : Heap} {M M' : rf_M} {a : Nat} {sh : rf_S} (h : rf_ao ocl cx ad U H M a sh) (hq : H'[ad a]? = H[ad a]?) (hM : ∀ (ty : FieldType) (k : Nat), rf_rd M' ty a k = rf_rd M ty a k) : rf_ao ocl cx ad U H' M' a sh := by
  cases sh with
  | inl ci =>
    obtain ⟨r, h1, h2, h3⟩ := h
    refine ⟨r, h1, by rw [hq]; exact h2, fun k hk => ?_⟩
    obtain ⟨cf, kf, fi, f, cell, g1, g2, g3, g4, g5⟩ := h3 k hk
    exact ⟨cf, kf, fi, f, cell, g1, g2, by rw [hq]; exact g3, g4, by rw [hM]; exact g5⟩
  | inr q =>
    obtain ⟨cell, h1, h2, h3, h4, h4', h5⟩ := h
    exact ⟨cell, by rw [hq]; exact h1, h2, h3, h4, h4', fun j hj => by rw [hM]; exact h5 j hj⟩
theorem rf_at.moved {D : va_G} {cx : rf_C} {ad : Nat → Nat} {u U : State} {H : Heap} {M : rf_M} {a : Nat} {sh : rf_S} (hvm : u.vm.Alike U.vm) (h : rf_at D cx ad u H M a sh) : rf_at D cx ad U H M a sh := by
  cases sh with
  | inl ci => exact h
  | inr q =>
    obtain ⟨cA, h1, h2, h3⟩ := h
    exact ⟨cA, h1, arrOfT_moved hvm h2, h3.moved hvm⟩
theorem rf_ao.moved {ocl : List vw_C} {cx : rf_C} {ad : Nat → Nat} {u U : State} {H : Heap} {M : rf_M} {a : Nat} {sh : rf_S} (hvm : u.vm.Alike U.vm) (h : rf_ao ocl cx ad u H M a sh) : rf_ao ocl cx ad U H M a sh := by
  cases sh with
  | inl ci =>
    obtain ⟨r, h1, ⟨cell, q1, q2, q3⟩, h3⟩ := h
    refine ⟨r, h1, ⟨cell, q1, q2, by rw [hvm.findClass]; exact q3⟩, fun k hk => ?_⟩
    obtain ⟨cf, kf, fi, f, cell, g1, g2, g3, g4, g5⟩ := h3 k hk
    obtain ⟨k', hi', he⟩ := State.fieldFound?_setVm hvm g1
    exact ⟨cf, k', fi, f, cell, hi', g2, g3, g4, g5⟩
  | inr q =>
    obtain ⟨cell, h1, h2, h3⟩ := h
    exact ⟨cell, h1, State.isArrayOf_alike hvm h2, h3⟩
theorem rf_R.moved {ocl : List vw_C} {OH : Heap} {D : va_G} {cx : rf_C} {ad : Nat → Nat} {base : Nat} {u U : State} {H : Heap} {h : rf_H} (hvm : u.vm.Alike U.vm) (hR : rf_R ocl OH D cx ad base u H h) : rf_R ocl OH D cx ad base U H h :=
  ⟨fun a h1 h2 => (hR.1 a h1 h2).moved hvm, fun a h0 h1 => (hR.2.1 a h0 h1).moved hvm, hR.2.2⟩
theorem rf_A.inj {cx : rf_C} {ad : Nat → Nat} {base : Nat} (hA : rf_A cx ad base) {x y : Nat} (h1 : cx.2.2.2.2 ≤ x) (h2 : cx.2.2.2.2 ≤ y) (h : ad x = ad y) : x = y := by
  rw [hA.1 x h1, hA.1 y h2] at h
  omega
theorem rf_A.ne {cx : rf_C} {ad : Nat → Nat} {base : Nat} (hA : rf_A cx ad base) {x y : Nat} (h1 : cx.2.2.2.2 ≤ x) (h0 : 0 < y) (h : y ≠ x) : ad y ≠ ad x := by
  by_cases h2 : cx.2.2.2.2 ≤ y
  · exact fun z => h (hA.inj h2 h1 z)
  · have h3 := hA.2.1 y h0 (Nat.not_le.mp h2)
    have h4 := hA.1 x h1
    omega
/-- one cell has changed -/
theorem rf_R.set {ocl : List vw_C} {OH : Heap} {D : va_G} {cx : rf_C} {ad : Nat → Nat} {base : Nat} {U : State} {H H' : Heap} {h : rf_H} (hR : rf_R ocl OH D cx ad base U H h) (hA : rf_A cx ad base) {a : Nat} (ha0 : cx.2.2.2.2 ≤ a) {M' : rf_M} (hz : H'.size = H.size) (ho : ∀ q : Nat, q ≠ ad a → H'[q]? = H[q]?) (hM : ∀ (ty : FieldType) (a' k : Nat), a' ≠ a → rf_rd M' ty a' k = rf_rd h.1 ty a' k) (hat : rf_at D cx ad U H' M' a (h.2.1 a)) : rf_R ocl OH D cx ad base U H' (M', h.2) := by
  obtain ⟨h1, h2, h3, h4, h6⟩ := hR
  refine ⟨fun b hb0 hb => ?_, fun b hp hb => ?_, by rw [hz]; exact h3, h4, fun q hq => (ho q ?_).trans (h6 q hq)⟩
  · by_cases hab : b = a
    · subst hab; exact hat
    · exact (h1 b hb0 hb).kept (ho _ (hA.ne ha0 (Nat.lt_of_lt_of_le hA.2.2 hb0) hab)) (fun ty k => hM ty b k hab)
  · have hab : b ≠ a := fun z => by subst z; omega
    exact (h2 b hp hb).kept (ho _ (hA.ne ha0 hp hab)) (fun ty k => hM ty b k hab)
  · have := hA.1 a ha0
    omega
theorem rf_nw_ne (h : rf_H) (sh : rf_S) (N : Nat) {a : Nat} (ha : a ≠ h.2.2.1) (ty : FieldType) (k : Nat) : rf_rd (rf_nw h sh N).1 ty a k = rf_rd h.1 ty a k := by
  cases ty <;> simp [rf_rd, rf_nw, va_up, ha]
/-- a new cell -/
theorem rf_R.new {ocl : List vw_C} {OH : Heap} {D : va_G} {cx : rf_C} {ad : Nat → Nat} {base : Nat} {U : State} {H H' : Heap} {h : rf_H} (hR : rf_R ocl OH D cx ad base U H h) (hA : rf_A cx ad base) {sh : rf_S} {N : Nat} (hz : H'.size = H.size + 1) (ho : ∀ q : Nat, q < H.size → H'[q]? = H[q]?) (hat : rf_at D cx ad U H' (rf_nw h sh N).1 h.2.2.1 sh) : rf_R ocl OH D cx ad base U H' (rf_nw h sh N) := by
  obtain ⟨h1, h2, h3, h4, h6⟩ := hR
  refine ⟨fun b hb0 hb => ?_, fun b hp hb => ?_, ?_, ?_, fun q hq => (ho q (by omega)).trans (h6 q hq)⟩
  · by_cases hab : b = h.2.2.1
    · subst hab
      have e : (rf_nw h sh N).2.1 h.2.2.1 = sh := va_up_self _ _ _
      rw [e]
      exact hat
    · have hb2 : b < h.2.2.1 := by
        have : b < h.2.2.1 + 1 := hb
        omega
      have e : (rf_nw h sh N).2.1 b = h.2.1 b := va_up_ne _ _ hab
      rw [e]
      refine (h1 b hb0 hb2).kept (ho _ ?_) (fun ty k => rf_nw_ne h sh N hab ty k)
      rw [hA.1 b hb0, h3]
      omega
  · have hab : b ≠ h.2.2.1 := by omega
    have e : (rf_nw h sh N).2.1 b = h.2.1 b := va_up_ne _ _ hab
    rw [e]
    refine (h2 b hp hb).kept (ho _ ?_) (fun ty k => rf_nw_ne h sh N hab ty k)
    have := hA.2.1 b hp hb
    omega
  · show H'.size = base + (h.2.2.1 + 1 - cx.2.2.2.2)
    rw [hz, h3]
    omega
  · show cx.2.2.2.2 ≤ h.2.2.1 + 1
    omega
theorem rf_ob_ok {h : rf_H} {a ci : Nat} (hq : rf_ob h a = some ci) : 0 < a ∧ a < h.2.2.1 ∧ h.2.1 a = .inl ci := by
  unfold rf_ob at hq
  split at hq
  · rename_i ha
    refine ⟨ha.1, ha.2, ?_⟩
    split at hq
    · rename_i c hc; cases hq; exact hc
    · cases hq
  · cases hq
theorem rf_aa_ok {h : rf_H} {a : Nat} {q : FieldType × Nat} (hq : rf_aa h a = some q) : 0 < a ∧ a < h.2.2.1 ∧ h.2.1 a = .inr q := by
  unfold rf_aa at hq
  split at hq
  · rename_i ha
    refine ⟨ha.1, ha.2, ?_⟩
    split at hq
    · rename_i c hc; cases hq; exact hc
    · cases hq
  · cases hq
/-- any array, as far as it is read -/
theorem rf_R.arr {ocl : List vw_C} {OH : Heap} {D : va_G} {cx : rf_C} {ad : Nat → Nat} {base : Nat} {U : State} {H : Heap} {h : rf_H} (hR : rf_R ocl OH D cx ad base U H h) {a : Nat} {q : FieldType × Nat} (hq : rf_aa h a = some q) : ∃ cell : Cell, H[ad a]? = some cell ∧ U.isArrayOf cell q.1 ∧ cell.vm ≠ .unknown ∧ q.2 ≤ cell.slots.size ∧ cell.slots.size.toInt32 = nI q.2 ∧ ∀ j, j < q.2 → cell.slots[j]? = some (rf_cv ad (rf_rd h.1 q.1 a j)) := by
  obtain ⟨h0, h1, h2⟩ := rf_aa_ok hq
  by_cases ha : cx.2.2.2.2 ≤ a
  · have h3 := hR.1 a ha h1
    rw [h2] at h3
    obtain ⟨cA, g1, g2, g3⟩ := h3
    exact ⟨_, g1, g2 _ _, (fun z => by cases z), by rw [arrV_size]; exact Nat.le_refl _, by rw [arrV_size]; rfl, fun j hj => arrV_read _ _ hj⟩
  · have h3 := hR.2.1 a h0 (Nat.not_le.mp ha)
    rw [h2] at h3
    exact h3
theorem rf_el_ok {h : rf_H} {ty : FieldType} {a : Nat} {j : Int32} {v : Value} (he : rf_el h ty a j = some v) : ∃ n : Nat, rf_aa h a = some (ty, n) ∧ ¬ (j < 0 ∨ n ≤ j.toNatClampNeg) ∧ v = rf_rd h.1 ty a j.toNatClampNeg := by
  unfold rf_el at he
  split at he
  · rename_i q hq
    split at he
    · rename_i hc
      cases he
      refine ⟨q.2, ?_, hc.2, rfl⟩
      rw [hq, ← hc.1]
    · cases he
  · cases he
