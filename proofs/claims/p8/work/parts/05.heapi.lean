/-! THE REFLECTION IS TRUE: instructions on the heap -/
/-- a field's link, and the field that it finds -/
def rf_wg (tb : List Cond) (own : String) (idx : Nat) (r : vw_C) (k : Nat) : Prop := k < r.2.2 ∧ ∃ ref : String, Cond.fieldLink own idx ref (r.2.1 k).2.1 (r.2.1 k).2.2.1 ∈ tb ∧ (ref = (r.2.1 k).1 ∨ Cond.sameField ref (r.2.1 k).1 (r.2.1 k).2.1 (r.2.1 k).2.2.1 ∈ tb)
/-- what a table of code says of its links -/
def rf_wlk (cx : rf_C) (ocl : List vw_C) (tb sp : List Cond) (own nm : String) (I : Instr) (aux : List (Int × Nat)) : Prop := match I with
  | .getfield idx => ∀ q ∈ aux, (0 ≤ q.1 → ∃ r : vw_C, cx.2.2.2.1[q.1.toNat]? = some r ∧ rf_wg tb own idx r q.2) ∧ (q.1 < 0 → ∃ r : vw_C, ocl[(-q.1 - 1).toNat]? = some r ∧ rf_wg tb own idx r q.2)
  | .putfield idx => ∀ q ∈ aux, 0 ≤ q.1 → ∃ r : vw_C, cx.2.2.2.1[q.1.toNat]? = some r ∧ rf_wg tb own idx r q.2 ∧ ((r.2.1 q.2).2.2.2 = false ∨ ((r.2.1 q.2).2.2.2 = true ∧ nm = "<init>" ∧ (r.2.1 q.2).1 = own))
  | .new idx => ∀ q ∈ aux, ∀ r : vw_C, cx.2.2.2.1[q.2]? = some r → Cond.classLink own idx r.1 ∈ tb ∧ Cond.instantiable r.1 r.2.2 ∈ tb ∧ Cond.initialized r.1 ∈ tb
  | .newarray t => Cond.arrayClass (newarray.typeOf t) ∈ tb
  | .anewarray idx => ∀ q ∈ aux, ∀ r : vw_C, cx.2.2.2.1[q.2]? = some r → Cond.classLink own idx r.1 ∈ tb ∧ Cond.arrayOver (.object r.1) ∈ sp
  | _ => True
/-- what the tables say of the classes -/
def rf_G (cx : rf_C) (tb : List Cond) : Prop := ∀ (ci : Nat) (r : vw_C), cx.2.2.2.1[ci]? = some r → (∀ w ∈ u_ws r.1 r.2.1 r.2.2, w ∈ tb) ∧ (∀ k, k < r.2.2 → parseFieldDescriptor (r.2.1 k).2.2.1 = some (cx.2.2.1 (ci : Int) k)) ∧ (∀ a, a < r.2.2 → ∀ b, b < r.2.2 → a ≠ b → (r.2.1 a).2.1 ≠ (r.2.1 b).2.1) ∧ (∀ k, k < r.2.2 → cx.2.2.1 (ci : Int) k ≠ .float ∧ cx.2.2.1 (ci : Int) k ≠ .double)
theorem rf_lk_ok {aux : List (Int × Nat)} {z : Int} {k : Nat} (h : rf_lk aux z = some k) : (z, k) ∈ aux := by
  unfold rf_lk at h
  cases hf : aux.find? (fun q => q.1 == z) with
  | none => rw [hf] at h; cases h
  | some q =>
    rw [hf] at h
    have hv : q.2 = k := Option.some.inj h
    have hm := List.mem_of_find?_eq_some hf
    have hi : q.1 = z := by simpa using List.find?_some hf
    rw [← hi, ← hv]
    exact hm
theorem rf_dv {ty : FieldType} (hty : ty ≠ .float ∧ ty ≠ .double) (ad : Nat → Nat) (h : rf_H) (sh : rf_S) (N k : Nat) : defaultValue ty = rf_cv ad (rf_rd (rf_nw h sh N).1 ty h.2.2.1 k) := by
  cases ty <;> first | exact absurd rfl hty.1 | exact absurd rfl hty.2 | simp [defaultValue, rf_rd, rf_nw, va_up, rf_cv, va_rf]
theorem rf_wi_cv (ad : Nat → Nat) (M : rf_M) {ty : FieldType} (hty : ty = .int ∨ ty = .byte ∨ ty = .boolean ∨ ty = .char ∨ ty = .short) (a k : Nat) (x : Int32) : (updV (fun j => rf_cv ad (rf_rd M ty a j)) k (.int x)) = fun j => rf_cv ad (rf_rd (rf_wi M a k x) ty a j) := by
  funext j
  unfold updV
  by_cases hj : j = k
  · subst hj
    rw [if_pos rfl]
    rcases hty with h | h | h | h | h <;> subst h <;> simp [rf_rd, rf_wi, va_up, rf_cv]
  · rw [if_neg hj, rf_wi_ne M x (Or.inr hj)]
theorem rf_wl_cv (ad : Nat → Nat) (M : rf_M) (a k : Nat) (x : Int64) : (updV (fun j => rf_cv ad (rf_rd M .long a j)) k (.long x)) = fun j => rf_cv ad (rf_rd (rf_wl M a k x) .long a j) := by
  funext j
  unfold updV
  by_cases hj : j = k
  · subst hj
    rw [if_pos rfl]
    simp [rf_rd, rf_wl, va_up, rf_cv]
  · rw [if_neg hj, rf_wl_ne M x (Or.inr hj)]
theorem rf_wq_cv (ad : Nat → Nat) (M : rf_M) (C : String) (a k : Nat) (x : Option Nat) : (updV (fun j => rf_cv ad (rf_rd M (.object C) a j)) k (va_rf (x.map ad))) = fun j => rf_cv ad (rf_rd (rf_wq M a k x) (.object C) a j) := by
  funext j
  unfold updV
  by_cases hj : j = k
  · subst hj
    rw [if_pos rfl, ← rf_cvrf]
    simp [rf_rd, rf_wq, va_up]
  · rw [if_neg hj, rf_wq_ne M x (Or.inr hj)]
section RFH
variable {p : Program} {l : Launch} {e : Env} {R : Room} {s : State} {m : MethodId} {args : Array Value} {below : List Frame} {meth : Method} {c : Code} {H : Heap} {locs : List Loc} {cells slots : Nat} {Q : State → Prop}
variable {cc : ByteArray} {pc : Nat} {ls : Array Slot} {D : va_G} {cx : rf_C} {ad : Nat → Nat} {base : Nat} {ocl : List vw_C} {OH : Heap} {tb sp : List Cond} {own : String} {h : rf_H} {rest : List Value}
theorem rf_get_ok (hx : p.tables.exec = Jvm.exec) (hb : c.code = cc) (hts : ∀ w ∈ tb, w.before args s = true) (hG : rf_G cx tb) (hown : s.vm.findClass own = some m.cls) (hK : va_K D cx.2.2.2.1 [] s) (hR : rf_R ocl OH D cx ad base s H h) {a ci k idx : Nat} (hob : rf_ob h a = some ci)
    (hw1 : cx.2.2.2.2 ≤ a → ∃ r : vw_C, cx.2.2.2.1[ci]? = some r ∧ rf_wg tb own idx r k) (hw2 : a < cx.2.2.2.2 → ∃ r : vw_C, ocl[ci]? = some r ∧ rf_wg tb own idx r k) (hd : decode cc pc = .ok (.getfield idx, 3))
    (kk : W p l e R s m args below meth c H locs cells slots Q (F0 m (pc + 3) ls (rf_cv ad (rf_rd h.1 (cx.2.2.1 (rf_ky cx.2.2.2.2 a ci) k) a k) :: rest))) : W p l e R s m args below meth c H locs cells slots Q (F0 m pc ls (.ref (ad a) :: rest)) := by
  obtain ⟨hap, ha, hsh⟩ := rf_ob_ok hob
  by_cases ha0 : cx.2.2.2.2 ≤ a
  · obtain ⟨r, hr, hk, ref, hl, hsm⟩ := hw1 ha0
    have hq := hR.1 a ha0 ha
    rw [hsh] at hq
    obtain ⟨r', hr', cell, q1, q2, q3, q4⟩ := hq
    cases hr.symm.trans hr'
    obtain ⟨hS, hfc, kC, hkC, hkind⟩ := hK.1 ci _ hr
    obtain ⟨cf, kf, fi, f, hi, hsl⟩ := hS k hk
    have hky : rf_ky cx.2.2.2.2 a ci = (ci : Int) := if_neg (Nat.not_lt.mpr ha0)
    rw [hky] at kk
    have hs2 : s.fieldFound? ref (r.2.1 k).2.1 (r.2.1 k).2.2.1 = some (cf, kf, fi, f) := by
      rcases hsm with h5 | h5
      · rw [h5]; exact hi
      · exact u_same (hts _ h5) _ hi
    exact W.getf hx hb hown (hts _ hl) hs2 (u_facts hfc hkC (u_lays hts (hG ci r hr).1 hk) hi).1 q1 (by rw [q3]; exact fun z => by cases z) (by rw [hsl]; exact q4 k hk) rfl rfl hd kk
  · have ha1 := Nat.not_le.mp ha0
    obtain ⟨r, hr, hk, ref, hl, hsm⟩ := hw2 ha1
    have hq := hR.2.1 a hap ha1
    rw [hsh] at hq
    obtain ⟨r', hr', -, h3⟩ := hq
    cases hr.symm.trans hr'
    obtain ⟨cf, kf, fi, f, cell, hi, hst, q1, q3, q4⟩ := h3 k hk
    have hky : rf_ky cx.2.2.2.2 a ci = -(ci : Int) - 1 := if_pos ha1
    rw [hky] at kk
    have hs2 : s.fieldFound? ref (r.2.1 k).2.1 (r.2.1 k).2.2.1 = some (cf, kf, fi, f) := by
      rcases hsm with h5 | h5
      · rw [h5]; exact hi
      · exact u_same (hts _ h5) _ hi
    exact W.getf hx hb hown (hts _ hl) hs2 hst q1 q3 q4 rfl rfl hd kk
theorem rf_put_ok (hx : p.tables.exec = Jvm.exec) (hb : c.code = cc) (hts : ∀ w ∈ tb, w.before args s = true) (hG : rf_G cx tb) (hown : s.vm.findClass own = some m.cls) (hK : va_K D cx.2.2.2.1 [] s) (hA : rf_A cx ad base) (hR : rf_R ocl OH D cx ad base s H h) (hloc : ∀ q ∈ locs, base ≤ q.base) {a ci k idx : Nat} (ha0 : cx.2.2.2.2 ≤ a) (hob : rf_ob h a = some ci)
    {r : vw_C} (hr : cx.2.2.2.1[ci]? = some r) (hw : rf_wg tb own idx r k) (hfin : (r.2.1 k).2.2.2 = false ∨ ((r.2.1 k).2.2.2 = true ∧ meth.name = "<init>" ∧ (r.2.1 k).1 = own)) {v : Value} {M' : rf_M} (hwr : rf_wr h.1 (cx.2.2.1 (ci : Int) k) a k v = some M') (hd : decode cc pc = .ok (.putfield idx, 3))
    (kk : ∀ (H' : Heap) (locs' : List Loc), rf_R ocl OH D cx ad base s H' (M', h.2) → (∀ q ∈ locs', base ≤ q.base) → W p l e R s m args below meth c H' locs' cells slots Q (F0 m (pc + 3) ls rest)) : W p l e R s m args below meth c H locs cells slots Q (F0 m pc ls (rf_cv ad v :: .ref (ad a) :: rest)) := by
  obtain ⟨hap, ha, hsh⟩ := rf_ob_ok hob
  obtain ⟨w1, w2, w3, w4⟩ := rf_wr_ok hwr ad
  obtain ⟨hk, ref, hl, hsm⟩ := hw
  have hq := hR.1 a ha0 ha
  rw [hsh] at hq
  obtain ⟨r', hr', cell, q1, q2, q3, q4⟩ := hq
  cases hr.symm.trans hr'
  obtain ⟨g1, g2, g3, -⟩ := hG ci r hr
  have hapt := va_apart (own := own) hts g1 (cx.2.2.1 (ci : Int)) g2 g3 hK hr
  obtain ⟨hS, hfc, kC, hkC, hkind⟩ := hK.1 ci _ hr
  obtain ⟨cf, kf, fi, f, hi, hsl⟩ := hS k hk
  have hst := (u_facts hfc hkC (u_lays hts g1 hk) hi).1
  have hsame : s.fieldFound? ref (r.2.1 k).2.1 (r.2.1 k).2.2.1 = some (cf, kf, fi, f) := by
    rcases hsm with h5 | h5
    · rw [h5]; exact hi
    · exact u_same (hts _ h5) _ hi
  have hlay := hts _ (g1 _ (u_in_lay hk))
  have hbase : base ≤ ad a := by rw [hA.1 a ha0]; omega
  have done : ∀ H' : Heap, H'[ad a]? = some (cell.setSlot (D.2 ci k) (rf_cv ad v)) → H'.size = H.size → (∀ q, q ≠ ad a → H'[q]? = H[q]?) → rf_R ocl OH D cx ad base s H' (M', h.2) := by
    intro H' e1 e2 e3
    refine hR.set hA ha0 e2 e3 (fun ty a' k' z => w2 ty a' k' (Or.inl z)) ?_
    rw [hsh]
    refine ⟨r, hr, t_OB.to (V := updV (fun j => rf_cv ad (rf_rd h.1 (cx.2.2.1 (ci : Int) j) a j)) k (rf_cv ad v)) ⟨_, e1, q2, q3, t_set q4 hapt hk _⟩ (fun j _ => ?_)⟩
    unfold updV
    by_cases hj : j = k
    · subst hj
      rw [if_pos rfl, w1]
    · rw [if_neg hj, w2 _ _ _ (Or.inr hj)]
  have hl2 : ∀ q ∈ locs ++ [(⟨ad a, D.2 ci k⟩ : Loc)], base ≤ q.base := by
    intro q hq
    rcases List.mem_append.mp hq with h5 | h5
    · exact hloc q h5
    · rw [List.mem_singleton.mp h5]; exact hbase
  rcases hfin with hf | ⟨hf, hin2, hdecl⟩
  · unfold u_lay at hlay
    rw [if_neg (by rw [hf]; decide)] at hlay
    have h6 := u_store hfc hkC hkind hlay hi (g2 k hk) w3 w4
    refine W.putK hx hb (f := f) ⟨hown, hts _ hl, ⟨_, _, _, hsame⟩, hst⟩ (by rw [q2]; exact h6) q1 q3 (by rw [hsl]; exact k2_hasslot (q4 k hk)) rfl rfl hd fun H' e1 e2 e3 => ?_
    rw [hsl] at e1 ⊢
    exact kk H' _ (done H' e1 e2 e3) hl2
  · unfold u_lay at hlay
    rw [if_pos hf] at hlay
    have hcf : m.cls = cf := by
      obtain ⟨_, _, c', _, _, _, -, -, hf', -, -, -, hown2, -⟩ := Cond.laysFinal_spec hlay
      have e1 : c' = cf := by have := hi.symm.trans hf'; simp at this; exact this.1.symm
      rw [hdecl] at hown2
      rw [← e1]; exact Option.some.inj (hown.symm.trans hown2)
    have h6 := u_fits hfc hkC hkind (Or.inr hlay) hi (g2 k hk) w3 w4
    refine W.putFinK hx hb hown (hts _ hl) hsame hst hcf hin2 (by rw [q2]; exact h6) q1 q3 (by rw [hsl]; exact k2_hasslot (q4 k hk)) rfl rfl hd fun H' e1 e2 e3 => ?_
    rw [hsl] at e1 ⊢
    exact kk H' _ (done H' e1 e2 e3) hl2
/-- a store into an array that was made -/
theorem rf_ast_ok (hA : rf_A cx ad base) (hR : rf_R ocl OH D cx ad base s H h) (hloc : ∀ q ∈ locs, base ≤ q.base) {a n : Nat} {ty : FieldType} (ha0 : cx.2.2.2.2 ≤ a) (haa : rf_aa h a = some (ty, n)) {k : Nat} {v : Value} {M' : rf_M} (hv : updV (fun j => rf_cv ad (rf_rd h.1 ty a j)) k v = fun j => rf_cv ad (rf_rd M' ty a j)) (hM : ∀ (ty' : FieldType) (a' k' : Nat), a' ≠ a → rf_rd M' ty' a' k' = rf_rd h.1 ty' a' k') {cA : ClassId} (hcell : H[ad a]? = some (arrV cA n (fun j => rf_cv ad (rf_rd h.1 ty a j)))) (hc1 : ArrOfT s cA ty) (hc2 : va_RA s cA ty)
    (kk : ∀ (H' : Heap) (locs' : List Loc), rf_R ocl OH D cx ad base s H' (M', h.2) → (∀ q ∈ locs', base ≤ q.base) → W p l e R s m args below meth c H' locs' cells slots Q (F0 m (pc + 1) ls rest)) :
    ∀ H' : Heap, H'[ad a]? = some ((arrV cA n (fun j => rf_cv ad (rf_rd h.1 ty a j))).setSlot k v) → H'.size = H.size → (∀ q, q ≠ ad a → H'[q]? = H[q]?) → W p l e R s m args below meth c H' (locs ++ [⟨ad a, k⟩]) cells slots Q (F0 m (pc + 1) ls rest) := by
  intro H' e1 e2 e3
  obtain ⟨-, ha, hsh⟩ := rf_aa_ok haa
  refine kk H' _ (hR.set hA ha0 e2 e3 hM ?_) (fun q hq => ?_)
  · rw [hsh]
    refine ⟨cA, ?_, hc1, hc2⟩
    rw [e1, arrV_store, hv]
  · rcases List.mem_append.mp hq with h5 | h5
    · exact hloc q h5
    · rw [List.mem_singleton.mp h5]
      show base ≤ ad a
      rw [hA.1 a ha0]
      omega
theorem rf_R.made {U : State} (hR : rf_R ocl OH D cx ad base U H h) {a n : Nat} {ty : FieldType} (ha0 : cx.2.2.2.2 ≤ a) (haa : rf_aa h a = some (ty, n)) : ∃ cA : ClassId, H[ad a]? = some (arrV cA n (fun j => rf_cv ad (rf_rd h.1 ty a j))) ∧ ArrOfT U cA ty ∧ va_RA U cA ty := by
  obtain ⟨-, ha, hsh⟩ := rf_aa_ok haa
  have hq := hR.1 a ha0 ha
  rw [hsh] at hq
  exact hq
set_option maxHeartbeats 8000000 in
theorem rf_hp_ok (hx : p.tables.exec = Jvm.exec) (hb : c.code = cc) (hts : ∀ w ∈ tb, w.before args s = true) (hsp : ∀ w ∈ sp, w.before #[] s = true) (hG : rf_G cx tb) (hown : s.vm.findClass own = some m.cls) (hK : va_K D cx.2.2.2.1 [] s) (hA : rf_A cx ad base) (hR : rf_R ocl OH D cx ad base s H h) (hloc : ∀ q ∈ locs, base ≤ q.base)
    {I : Instr} {aux : List (Int × Nat)} {st : List Value} {q' : List Value × rf_H} (he : rf_hp cx I aux st h = some q') (hd : decode cc pc = .ok (I, rf_len I)) {nm : String} (hwl : rf_wlk cx ocl tb sp own nm I aux) (hnm : nm = "<init>" → meth.name = "<init>")
    (hcells : cells + (q'.2.2.2.1 - h.2.2.1) ≤ R.cells) (hslots : slots + (q'.2.2.2.2 - h.2.2.2) ≤ R.slots)
    (kk : ∀ (H' : Heap) (locs' : List Loc), rf_R ocl OH D cx ad base s H' q'.2 → (∀ q ∈ locs', base ≤ q.base) → W p l e R s m args below meth c H' locs' (cells + (q'.2.2.2.1 - h.2.2.1)) (slots + (q'.2.2.2.2 - h.2.2.2)) Q (F0 m (pc + rf_len I) ls (q'.1.map (rf_cv ad)))) : W p l e R s m args below meth c H locs cells slots Q (F0 m pc ls (st.map (rf_cv ad))) := by
  have same : ∀ {st' : List Value} {M' : rf_M}, q' = (st', (M', h.2)) → ∀ (H' : Heap) (locs' : List Loc), rf_R ocl OH D cx ad base s H' (M', h.2) → (∀ q ∈ locs', base ≤ q.base) → W p l e R s m args below meth c H' locs' cells slots Q (F0 m (pc + rf_len I) ls (st'.map (rf_cv ad))) := by
    intro st' M' hq H' locs' h1 h2
    subst hq
    have k2 := kk H' locs' h1 h2
    simp only [Nat.sub_self, Nat.add_zero] at k2
    exact k2
  have here : ∀ {st' : List Value}, q' = (st', h) → W p l e R s m args below meth c H locs cells slots Q (F0 m (pc + rf_len I) ls (st'.map (rf_cv ad))) := fun hq => same (M' := h.1) hq H locs hR hloc
  have ld : ∀ {ty : FieldType} {a : Nat} {j : Int32} {v : Value}, rf_el h ty a j = some v → ∃ cell : Cell, H[ad a]? = some cell ∧ s.isArrayOf cell ty ∧ cell.vm ≠ .unknown ∧ ¬ (j < 0 ∨ cell.slots.size ≤ j.toNatClampNeg) ∧ cell.slots[j.toNatClampNeg]? = some (rf_cv ad v) := by
    intro ty a j v hv
    obtain ⟨n, h1, h2, rfl⟩ := rf_el_ok hv
    obtain ⟨cell, g1, g2, g3, g4, -, g5⟩ := hR.arr h1
    exact ⟨cell, g1, g2, g3, fun z => h2 (z.imp id (fun w => Nat.le_trans g4 w)), g5 _ (Nat.not_le.mp fun z => h2 (Or.inr z))⟩
  unfold rf_hp at he
  split at he
  · -- getfield
    rename_i idx a r
    split at he
    · rename_i ci hob
      split at he
      · rename_i k hlk
        cases he
        have hm := hwl _ (rf_lk_ok hlk)
        refine rf_get_ok hx hb hts hG hown hK hR hob (fun ha0 => ?_) (fun ha1 => ?_) hd (here rfl)
        · have hky : rf_ky cx.2.2.2.2 a ci = (ci : Int) := if_neg (Nat.not_lt.mpr ha0)
          rw [hky] at hm
          exact hm.1 (Int.natCast_nonneg ci)
        · have hky : rf_ky cx.2.2.2.2 a ci = -(ci : Int) - 1 := if_pos ha1
          rw [hky] at hm
          have h5 := hm.2 (by simp only; omega)
          simp only at h5
          rw [show (-(-(ci : Int) - 1) - 1).toNat = ci by omega] at h5
          exact h5
      · cases he
    · cases he
  · -- putfield
    rename_i idx v a r
    split at he
    · cases he
    · rename_i ha1
      have ha0 := Nat.not_lt.mp ha1
      split at he
      · rename_i ci hob
        split at he
        · rename_i k hlk
          split at he
          · rename_i M hwr
            cases he
            obtain ⟨r0, hr0, hw, hf⟩ := hwl _ (rf_lk_ok hlk) (Int.natCast_nonneg ci)
            exact rf_put_ok hx hb hts hG hown hK hA hR hloc ha0 hob (by simpa using hr0) hw (hf.imp id (fun z => ⟨z.1, hnm z.2.1, z.2.2⟩)) hwr hd (same rfl)
          · cases he
        · cases he
      · cases he
  · split at he
    · rename_i v hv
      cases he
      obtain ⟨cell, g1, g2, g3, g4, g5⟩ := ld hv
      exact W.iald hx hb g1 g2 g3 g4 g5 rfl rfl hd (here rfl)
    · cases he
  · split at he
    · rename_i v hv
      cases he
      obtain ⟨cell, g1, g2, g3, g4, g5⟩ := ld hv
      exact W.lald hx hb g1 g2 g3 g4 g5 rfl rfl hd (here rfl)
    · cases he
  · split at he
    · rename_i v hv
      cases he
      obtain ⟨cell, g1, g2, g3, g4, g5⟩ := ld hv
      exact W.bald hx hb g1 g2 g3 g4 g5 rfl rfl hd (here rfl)
    · split at he
      · rename_i v hv
        cases he
        obtain ⟨cell, g1, g2, g3, g4, g5⟩ := ld hv
        exact W.zald hx hb g1 g2 g3 g4 g5 rfl rfl hd (here rfl)
      · cases he
  · split at he
    · rename_i v hv
      cases he
      obtain ⟨cell, g1, g2, g3, g4, g5⟩ := ld hv
      exact W.cald hx hb g1 g2 g3 g4 g5 rfl rfl hd (here rfl)
    · cases he
  · split at he
    · rename_i v hv
      cases he
      obtain ⟨cell, g1, g2, g3, g4, g5⟩ := ld hv
      exact W.sald hx hb g1 g2 g3 g4 g5 rfl rfl hd (here rfl)
    · cases he
  · split at he
    · split at he
      · rename_i v hv
        cases he
        obtain ⟨cell, g1, g2, g3, g4, g5⟩ := ld hv
        exact W.aald hx hb g1 g2 rfl g3 g4 g5 rfl rfl hd (here rfl)
      · cases he
    · split at he
      · rename_i v hv
        cases he
        obtain ⟨cell, g1, g2, g3, g4, g5⟩ := ld hv
        exact W.aald hx hb g1 g2 rfl g3 g4 g5 rfl rfl hd (here rfl)
      · cases he
    · cases he
  · -- iastore
    rename_i x j a r
    split at he
    · cases he
    · rename_i ha1
      split at he
      · rename_i v hv
        cases he
        obtain ⟨n, h1, h2, -⟩ := rf_el_ok hv
        obtain ⟨cA, c1, c2, c3⟩ := hR.made (Nat.not_lt.mp ha1) h1
        exact W.iast hx hb c1 (c2 _ _) (fun z => by cases z) (by rw [arrV_size]; exact h2) rfl rfl hd (rf_ast_ok hA hR hloc (Nat.not_lt.mp ha1) h1 (rf_wi_cv ad h.1 (Or.inl rfl) a _ x) (fun ty a' k' z => rf_wi_ne h.1 x (Or.inl z) ty) c1 c2 c3 (same rfl))
      · cases he
  · rename_i x j a r
    split at he
    · cases he
    · rename_i ha1
      split at he
      · rename_i v hv
        cases he
        obtain ⟨n, h1, h2, -⟩ := rf_el_ok hv
        obtain ⟨cA, c1, c2, c3⟩ := hR.made (Nat.not_lt.mp ha1) h1
        exact W.last hx hb c1 (c2 _ _) (fun z => by cases z) (by rw [arrV_size]; exact h2) rfl rfl hd (rf_ast_ok hA hR hloc (Nat.not_lt.mp ha1) h1 (rf_wl_cv ad h.1 a _ x) (fun ty a' k' z => rf_wl_ne h.1 x (Or.inl z) ty) c1 c2 c3 (same rfl))
      · cases he
  · rename_i x j a r
    split at he
    · cases he
    · rename_i ha1
      split at he
      · rename_i v hv
        cases he
        obtain ⟨n, h1, h2, -⟩ := rf_el_ok hv
        obtain ⟨cA, c1, c2, c3⟩ := hR.made (Nat.not_lt.mp ha1) h1
        exact W.bast hx hb c1 (c2 _ _) (fun z => by cases z) (by rw [arrV_size]; exact h2) rfl rfl hd (rf_ast_ok hA hR hloc (Nat.not_lt.mp ha1) h1 (rf_wi_cv ad h.1 (Or.inr (Or.inl rfl)) a _ _) (fun ty a' k' z => rf_wi_ne h.1 _ (Or.inl z) ty) c1 c2 c3 (same rfl))
      · split at he
        · rename_i v hv
          cases he
          obtain ⟨n, h1, h2, -⟩ := rf_el_ok hv
          obtain ⟨cA, c1, c2, c3⟩ := hR.made (Nat.not_lt.mp ha1) h1
          exact W.zast hx hb c1 (c2 _ _) (fun z => by cases z) (by rw [arrV_size]; exact h2) rfl rfl hd (rf_ast_ok hA hR hloc (Nat.not_lt.mp ha1) h1 (rf_wi_cv ad h.1 (Or.inr (Or.inr (Or.inl rfl))) a _ _) (fun ty a' k' z => rf_wi_ne h.1 _ (Or.inl z) ty) c1 c2 c3 (same rfl))
        · cases he
  · rename_i x j a r
    split at he
    · cases he
    · rename_i ha1
      split at he
      · rename_i v hv
        cases he
        obtain ⟨n, h1, h2, -⟩ := rf_el_ok hv
        obtain ⟨cA, c1, c2, c3⟩ := hR.made (Nat.not_lt.mp ha1) h1
        exact W.cast hx hb c1 (c2 _ _) (fun z => by cases z) (by rw [arrV_size]; exact h2) rfl rfl hd (rf_ast_ok hA hR hloc (Nat.not_lt.mp ha1) h1 (rf_wi_cv ad h.1 (Or.inr (Or.inr (Or.inr (Or.inl rfl)))) a _ _) (fun ty a' k' z => rf_wi_ne h.1 _ (Or.inl z) ty) c1 c2 c3 (same rfl))
      · cases he
  · -- aastore of an object
    rename_i v j a r
    split at he
    · cases he
    · rename_i ha1
      have ha0 : cx.2.2.2.2 ≤ a := Nat.not_lt.mp fun z => ha1 (Or.inl z)
      have hv0 : cx.2.2.2.2 ≤ v := Nat.not_lt.mp fun z => ha1 (Or.inr z)
      split at he
      · rename_i C n ci haa hob
        split at he
        · rename_i hc
          cases he
          obtain ⟨cA, c1, c2, c3⟩ := hR.made ha0 haa
          obtain ⟨-, hv1, hsh⟩ := rf_ob_ok hob
          have hq := hR.1 v hv0 hv1
          rw [hsh] at hq
          obtain ⟨r1, hr1, cellV, g1, g2, g3, -⟩ := hq
          have hC : r1.1 = C := by have h5 := hc.1; rw [hr1] at h5; exact Option.some.inj h5
          have hcls := (hK.1 ci r1 hr1).2
          obtain ⟨kA, comp, k1, k2, k3, -⟩ := c3
          have hcomp : comp = D.1 ci := by rw [← hC] at k3; exact Option.some.inj (k3.symm.trans hcls.1)
          subst hcomp
          obtain ⟨kC, hkC, -⟩ := hcls.2
          obtain ⟨cA2, d1, d2, d3⟩ := hR.made ha0 haa
          have hcA : cA2 = cA := by have h6 := d1.symm.trans c1; exact congrArg (fun z : Option Cell => (z.map (·.cls)).getD 0) h6
          subst hcA
          have hlt : j.toNatClampNeg < n := Nat.not_le.mp fun z => hc.2 (Or.inr z)
          exact W.aast hx hb c1 (fun z h7 => by cases h7) (fun h7 => by cases h7) k1 k2 rfl hkC ⟨fun z => hc.2 (Or.inl z), by rw [arrV_size]; exact hlt⟩ g1 (fun z h7 => by rw [g3] at h7; cases h7) (by rw [g2]; exact hkC) (by rw [g2]; exact va_assign hcls) rfl rfl hd (rf_ast_ok hA hR hloc ha0 haa (rf_wq_cv ad h.1 C a _ (some v)) (fun ty a' k' z => rf_wq_ne h.1 (some v) (Or.inl z) ty) c1 c2 d3 (same rfl))
        · cases he
      · cases he
  · -- aastore of null
    rename_i j a r
    split at he
    · cases he
    · rename_i ha1
      have ha0 : cx.2.2.2.2 ≤ a := Nat.not_lt.mp ha1
      split at he
      · rename_i C n haa
        split at he
        · rename_i hc
          cases he
          obtain ⟨cA, c1, c2, c3⟩ := hR.made ha0 haa
          exact va_WaastN (C := C) hx hb c1 (c2 _ _) (fun h7 => by cases h7) (by rw [arrV_size]; exact hc) rfl rfl hd (rf_ast_ok hA hR hloc ha0 haa (rf_wq_cv ad h.1 C a _ none) (fun ty a' k' z => rf_wq_ne h.1 none (Or.inl z) ty) c1 c2 c3 (same rfl))
        · cases he
      · cases he
  · -- arraylength
    split at he
    · rename_i q hq
      cases he
      obtain ⟨cell, g1, g2, g3, -, g4, g5⟩ := hR.arr hq
      exact W.alen hx hb g1 g2 g4 rfl rfl hd (here rfl)
    · cases he
  · -- new
    split at he
    · rename_i x1 ci
      split at he
      · rename_i q hq
        cases he
        obtain ⟨l1, l2, l3⟩ := hwl (x1, ci) (List.mem_singleton.mpr rfl) q hq
        obtain ⟨g1, g2, g3, g4⟩ := hG ci q hq
        have hKn := hK.1 ci _ hq
        have e1 : (rf_nw h (.inl ci) q.2.2).2.2.1 - h.2.2.1 = 1 := by show h.2.2.1 + 1 - h.2.2.1 = 1; omega
        have e2 : (rf_nw h (.inl ci) q.2.2).2.2.2 - h.2.2.2 = q.2.2 := by show h.2.2.2 + q.2.2 - h.2.2.2 = q.2.2; omega
        simp only [e1, e2] at hcells hslots kk
        have had : H.size = ad h.2.2.1 := by rw [hA.1 _ hR.2.2.2.1, hR.2.2.1]
        refine W.newcK hx hb hown (hts _ l1) (hts _ l2) (hts _ l3) rfl hd hcells hslots hKn.2.1 had fun H1 kC hkC e1 z1 o1 => ?_
        refine kk H1 locs (hR.new hA (by rw [z1, had]) (fun x hx => o1 x (by rw [← had]; exact hx)) ?_) hloc
        exact ⟨q, hq, (u_born (cx.2.2.1 (ci : Int)) hts g1 hKn hkC e1 g2).to (fun k hk => rf_dv (g4 k hk) ad h _ _ k)⟩
      · cases he
    · cases he
  · -- newarray
    rename_i t n r
    split at he
    · rename_i hc
      cases he
      have e1 : (rf_nw h (.inr (newarray.typeOf t, n.toNatClampNeg)) n.toNatClampNeg).2.2.1 - h.2.2.1 = 1 := by show h.2.2.1 + 1 - h.2.2.1 = 1; omega
      have e2 : (rf_nw h (.inr (newarray.typeOf t, n.toNatClampNeg)) n.toNatClampNeg).2.2.2 - h.2.2.2 = n.toNatClampNeg := by show h.2.2.2 + n.toNatClampNeg - h.2.2.2 = n.toNatClampNeg; omega
      simp only [e1, e2] at hcells hslots kk
      have had : H.size = ad h.2.2.1 := by rw [hA.1 _ hR.2.2.2.1, hR.2.2.1]
      refine va_newaK hx hb (hts _ hwl) rfl hd rfl hc.1 rfl hc.2.1 hcells hslots had fun H1 cA e1 z1 o1 hAr hNm => ?_
      refine kk H1 locs (hR.new hA (by rw [z1, had]) (fun x hx => o1 x (by rw [← had]; exact hx)) ?_) hloc
      refine ⟨cA, ?_, hAr, by cases t <;> exact hNm⟩
      rw [e1]
      congr 2
      funext j
      exact rf_dv hc.2.2 ad h _ _ j
    · cases he
  · -- anewarray
    rename_i idx n r
    split at he
    · rename_i x1 ci
      split at he
      · rename_i q hq
        split at he
        · rename_i hc
          cases he
          obtain ⟨l1, l2⟩ := hwl (x1, ci) (List.mem_singleton.mpr rfl) q hq
          have e1 : (rf_nw h (.inr (.object q.1, n.toNatClampNeg)) n.toNatClampNeg).2.2.1 - h.2.2.1 = 1 := by show h.2.2.1 + 1 - h.2.2.1 = 1; omega
          have e2 : (rf_nw h (.inr (.object q.1, n.toNatClampNeg)) n.toNatClampNeg).2.2.2 - h.2.2.2 = n.toNatClampNeg := by show h.2.2.2 + n.toNatClampNeg - h.2.2.2 = n.toNatClampNeg; omega
          simp only [e1, e2] at hcells hslots kk
          have had : H.size = ad h.2.2.1 := by rw [hA.1 _ hR.2.2.2.1, hR.2.2.1]
          refine W.anew hx hb hown (hts _ l1) (va_AO.use (hsp _ l2)) rfl hd rfl hc.1 hc.2 hcells hslots fun cA kA comp f1 f2 f3 f4 => ?_
          rw [had]
          refine kk _ locs (hR.new hA (by simp) (fun x hx => by rw [Array.getElem?_push, if_neg (Nat.ne_of_lt hx)]) ?_) hloc
          refine ⟨cA, ?_, fun N z => ⟨(fun k h7 => by cases h7), kA, f2, comp, f3⟩, kA, comp, f2, f3, f4, f1⟩
          rw [← had, Array.getElem?_push_size, arrV_new]
          congr 2
          funext j
          exact rf_dv (ty := .object q.1) ⟨by simp, by simp⟩ ad h _ _ j
        · cases he
      · cases he
    · cases he
  · cases he
end RFH
