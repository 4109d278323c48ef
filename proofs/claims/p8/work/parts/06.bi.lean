/-! THE REFLECTION IS TRUE: members of the JDK that the kit has rows for, constants of the pool -/
/-- what a table of code says of such a call -/
def rf_wi8 (tb : List Cond) (own : String) (idx : Nat) (kd : Int) : Prop :=
  (kd = 10 → Cond.methodLink own idx objectInit ∈ tb ∧ Cond.instanceMethod objectInit ∈ tb ∧ Cond.code objectInit ⟨#[0xb1]⟩ 1 none ∈ tb) ∧
  (kd = 11 → Cond.methodLink own idx arraycopyName ∈ tb ∧ Cond.native arraycopyName ∈ tb ∧ Cond.static arraycopyName ∈ tb ∧ Cond.initialized "java/lang/System" ∈ tb) ∧
  (kd = 12 → Cond.methodLink own idx Lib.Math.min.name ∈ tb ∧ Cond.static Lib.Math.min.name ∈ tb ∧ Cond.initialized "java/lang/Math" ∈ tb ∧ Cond.code Lib.Math.min.name Lib.Math.min.code 2 (some .int) ∈ tb) ∧
  (kd = 13 → Cond.methodLink own idx Lib.Math.max.name ∈ tb ∧ Cond.static Lib.Math.max.name ∈ tb ∧ Cond.initialized "java/lang/Math" ∈ tb ∧ Cond.code Lib.Math.max.name Lib.Math.max.code 2 (some .int) ∈ tb)
theorem rf_ok8_ok {r : List Value} {d : Nat × Nat} {w : Nat} (h : rf_ok8 r d w = true) : 1 ≤ d.1 ∧ (r.map fun v => v.category).sum + w ≤ d.2 := by
  unfold rf_ok8 at h
  simpa using h
section RFB
variable {p : Program} {l : Launch} {e : Env} {R : Room} {s : State} {m : MethodId} {args : Array Value} {below : List Frame} {meth : Method} {c : Code} {H : Heap} {locs : List Loc} {cells slots : Nat} {Q : State → Prop}
variable {cc : ByteArray} {pc : Nat} {ls : Array Slot} {D : va_G} {cx : rf_C} {ad : Nat → Nat} {base : Nat} {ocl : List vw_C} {OH : Heap} {tb sp : List Cond} {own : String} {h : rf_H} {rest : List Value}
set_option maxHeartbeats 4000000 in
theorem rf_cpy_ok (hx : p.tables.exec = Jvm.exec) (hb : c.code = cc) (hml : c.maxLocals = ls.size) (hts : ∀ w ∈ tb, w.before args s = true) (hown : s.vm.findClass own = some m.cls) {idx : Nat} (hl : Cond.methodLink own idx arraycopyName ∈ tb ∧ Cond.native arraycopyName ∈ tb ∧ Cond.static arraycopyName ∈ tb ∧ Cond.initialized "java/lang/System" ∈ tb)
    (hA : rf_A cx ad base) (hR : rf_R ocl OH D cx ad base s H h) (hloc : ∀ q ∈ locs, base ≤ q.base) {a1 a2 n1 n2 : Nat} {ty : FieldType} (hty : ty = .int ∨ ty = .long) (g1 : cx.2.2.2.2 ≤ a1) (g2 : cx.2.2.2.2 ≤ a2) (haa1 : rf_aa h a1 = some (ty, n1)) (haa2 : rf_aa h a2 = some (ty, n2))
    {dp sp n : Int32} (h1 : ¬ sp < 0) (h2 : ¬ dp < 0) (h3 : ¬ n < 0) (h4 : sp.toNatClampNeg + n.toNatClampNeg ≤ n2) (h5 : dp.toNatClampNeg + n.toNatClampNeg ≤ n1) {M' : rf_M} (hM : ∀ (ty' : FieldType) (a' k' : Nat), a' ≠ a1 → rf_rd M' ty' a' k' = rf_rd h.1 ty' a' k')
    (hv : va_cpy (fun j => rf_cv ad (rf_rd h.1 ty a2 j)) (fun j => rf_cv ad (rf_rd h.1 ty a1 j)) sp.toNatClampNeg dp.toNatClampNeg n.toNatClampNeg = fun j => rf_cv ad (rf_rd M' ty a1 j))
    (hframes : 1 ≤ R.frames) (hlocals : (rest.map fun v => v.category).sum + 18 ≤ R.locals) (hd : decode cc pc = .ok (.invokestatic idx, 3))
    (kk : ∀ (H' : Heap) (locs' : List Loc), rf_R ocl OH D cx ad base s H' (M', h.2) → (∀ q ∈ locs', base ≤ q.base) → W p l e R s m args below meth c H' locs' cells slots Q (F0 m (pc + 3) ls rest)) : W p l e R s m args below meth c H locs cells slots Q (F0 m pc ls (.int n :: .int dp :: .ref (ad a1) :: .int sp :: .ref (ad a2) :: rest)) := by
  have nn : ∀ z : Int32, ¬ z < 0 → z.toInt = (z.toNatClampNeg : Int) := by
    intro z hz
    have hz0 : (0 : Int) ≤ z.toInt := by
      have := Int32.not_lt.mp hz
      simpa using Int32.le_iff_toInt_le.mp this
    show z.toInt = ((z.toInt.toNat : Nat) : Int)
    omega
  intro T hT X
  obtain ⟨c1, e1, f1, f1'⟩ := hR.made g1 haa1
  obtain ⟨c2, e2, f2, f2'⟩ := hR.made g2 haa2
  obtain ⟨-, k2, hk2, cm2, hkk2⟩ := f2 n2 (fun j => rf_cv ad (rf_rd h.1 ty a2 j))
  obtain ⟨-, k1, hk1, cm1, hkk1⟩ := f1 n1 (fun j => rf_cv ad (rf_rd h.1 ty a1 j))
  have hprim : refKind ty = false := by rcases hty with z | z <;> subst z <;> rfl
  obtain ⟨vm', X', step⟩ := X.arraycopy hx hown (hts _ hl.1) (hts _ hl.2.1) (hts _ hl.2.2.1) (hts _ hl.2.2.2) (src := ad a2) (dst := ad a1) (srcPos := sp) (destPos := dp) (n := n) (by rw [hT]; exact e2) (by rw [hT]; exact e1)
    (fun _ z => by cases z) (fun _ z => by cases z) (fun z => by cases z) (fun z => by cases z) hk2 hk1 hkk2 hkk1 (by simp [hprim]) h1 h2 h3
    (by rw [nn sp h1, nn n h3, arrV_size]; omega)
    (by rw [nn dp h2, nn n h3, arrV_size]; omega)
    (fun vm₁ _ i hi => by
      have e : (arrV c2 n2 (fun j => rf_cv ad (rf_rd h.1 ty a2 j))).slots.getD (sp.toNatClampNeg + i) .null = rf_cv ad (rf_rd h.1 ty a2 (sp.toNatClampNeg + i)) := by
        rw [Array.getD_eq_getD_getElem?, arrV_read _ _ (by omega)]
        rfl
      rw [e]
      rcases hty with z | z <;> subst z <;> exact ⟨rfl, trivial⟩)
    (g := F0 m pc ls (.int n :: .int dp :: .ref (ad a1) :: .int sp :: .ref (ad a2) :: rest)) rfl (by rw [hml]) (rest := rest) rfl (by rw [hb]; exact hd) hframes (by
      have e7 : nativeFrameWords "java/lang/System" "arraycopy" 5 = 7 := by decide +kernel
      rw [e7]
      show 2 * 0 + _ + _ ≤ _
      omega)
  have e3 : copied (arrV c2 n2 (fun j => rf_cv ad (rf_rd h.1 ty a2 j))) (arrV c1 n1 (fun j => rf_cv ad (rf_rd h.1 ty a1 j))) sp dp n = arrV c1 n1 (fun j => rf_cv ad (rf_rd M' ty a1 j)) := by
    have e4 := va_copied (fun z : Value => z) c2 c1 (n1 := n1) (dp := dp.toNatClampNeg) (fun j => rf_cv ad (rf_rd h.1 ty a2 j)) (fun j => rf_cv ad (rf_rd h.1 ty a1 j)) h4
    rw [← hv]
    exact e4
  rw [e3] at X' step
  have hlt : ad a1 < H.size := (Array.getElem?_eq_some_iff.mp e1).1
  have hheap : ((T.setVm vm').setCell (ad a1) (arrV c1 n1 (fun j => rf_cv ad (rf_rd M' ty a1 j)))).heap = H.setIfInBounds (ad a1) (arrV c1 n1 (fun j => rf_cv ad (rf_rd M' ty a1 j))) := by rw [← hT]; rfl
  have oq : ∀ q : Nat, q ≠ ad a1 → (H.setIfInBounds (ad a1) (arrV c1 n1 (fun j => rf_cv ad (rf_rd M' ty a1 j))))[q]? = H[q]? := fun q hq => by simp [Array.getElem?_setIfInBounds, Ne.symm hq]
  obtain ⟨-, -, hsh⟩ := rf_aa_ok haa1
  obtain ⟨t, b1, b2⟩ := kk _ _ (hR.set hA g1 (by simp) oq hM (by
      rw [hsh]
      exact ⟨c1, by simp [Array.getElem?_setIfInBounds, hlt], f1, f1'⟩)) (fun q hq => by
      rcases List.mem_append.mp hq with z | z
      · exact hloc q z
      · obtain ⟨w, -, hw⟩ := List.mem_map.mp z
        rw [← hw]
        show base ≤ ad a1
        rw [hA.1 a1 g1]
        omega) _ hheap X'
  exact ⟨t, step t b1, b2⟩
theorem rf_cpyI (ad : Nat → Nat) (M : rf_M) (a1 a2 sp dp n : Nat) : va_cpy (fun j => rf_cv ad (rf_rd M .int a2 j)) (fun j => rf_cv ad (rf_rd M .int a1 j)) sp dp n = fun j => rf_cv ad (rf_rd (va_up M.1 a1 (va_cpy (M.1 a2) (M.1 a1) sp dp n), M.2.1, M.2.2) .int a1 j) := by
  funext j
  simp only [rf_rd, va_up_self]
  unfold va_cpy
  split <;> rfl
theorem rf_cpyL (ad : Nat → Nat) (M : rf_M) (a1 a2 sp dp n : Nat) : va_cpy (fun j => rf_cv ad (rf_rd M .long a2 j)) (fun j => rf_cv ad (rf_rd M .long a1 j)) sp dp n = fun j => rf_cv ad (rf_rd (M.1, va_up M.2.1 a1 (va_cpy (M.2.1 a2) (M.2.1 a1) sp dp n), M.2.2) .long a1 j) := by
  funext j
  simp only [rf_rd, va_up_self]
  unfold va_cpy
  split <;> rfl
set_option maxHeartbeats 4000000 in
theorem rf_bi_ok (hx : p.tables.exec = Jvm.exec) (hb : c.code = cc) (hml : c.maxLocals = ls.size) (hts : ∀ w ∈ tb, w.before args s = true) (hown : s.vm.findClass own = some m.cls) (hA : rf_A cx ad base) (hR : rf_R ocl OH D cx ad base s H h) (hloc : ∀ q ∈ locs, base ≤ q.base)
    {I : Instr} {idx : Nat} {kd : Int} {d : Nat × Nat} {st : List Value} {q' : List Value × rf_H} (he : rf_bi cx kd d st h = some q') (hI : (kd = 10 ∧ I = .invokespecial idx) ∨ (kd ≠ 10 ∧ I = .invokestatic idx)) (hd : decode cc pc = .ok (I, 3)) (hw : rf_wi8 tb own idx kd)
    (hfr : d.1 ≤ R.frames) (hlo : d.2 ≤ R.locals) (hc : cells ≤ R.cells) (hs : slots ≤ R.slots)
    (kk : ∀ (H' : Heap) (locs' : List Loc), rf_R ocl OH D cx ad base s H' q'.2 → (∀ q ∈ locs', base ≤ q.base) → W p l e R s m args below meth c H' locs' cells slots Q (F0 m (pc + 3) ls (q'.1.map (rf_cv ad)))) : q'.2.2 = h.2 ∧ W p l e R s m args below meth c H locs cells slots Q (F0 m pc ls (st.map (rf_cv ad))) := by
  unfold rf_bi at he
  split at he
  · rename_i hk
    obtain ⟨w1, w2, w3⟩ := hw.1 hk
    have hI2 : I = .invokespecial idx := by
      rcases hI with z | z
      · exact z.2
      · exact absurd hk z.1
    subst hI2
    split at he
    · rename_i a r
      split at he
      · rename_i h8
        cases he
        obtain ⟨r1, r2⟩ := rf_ok8_ok h8
        refine ⟨rfl, W.objInit hx hb hown (hts _ w1) (hts _ w2) (hts _ w3) rfl hml.symm rfl hd (by omega) ?_ (kk H locs hR hloc)⟩
        rw [rf_cats]
        show 2 * 0 + _ + 12 ≤ _
        omega
      · cases he
    · cases he
  · rename_i hk0
    have hI2 : I = .invokestatic idx := by
      rcases hI with z | z
      · exact absurd z.1 hk0
      · exact z.2
    subst hI2
    split at he
    · rename_i hk
      have wl := hw.2.1 hk
      split at he
      · rename_i n dp a1 sp a2 r
        split at he
        · rename_i h8
          obtain ⟨h8, ha1, ha2, i1, i2, i3⟩ := h8
          obtain ⟨r1, r2⟩ := rf_ok8_ok h8
          split at he
          · rename_i n1 n2 haa1 haa2
            split at he
            · rename_i hcc
              cases he
              exact ⟨rfl, rf_cpy_ok hx hb hml hts hown wl hA hR hloc (Or.inl rfl) (Nat.not_lt.mp ha1) (Nat.not_lt.mp ha2) haa1 haa2 i1 i2 i3 hcc.1 hcc.2 (fun ty' a' k' z => by cases ty' <;> simp [rf_rd, va_up, z]) (rf_cpyI ad h.1 a1 a2 _ _ _) (by omega) (by rw [rf_cats]; omega) hd kk⟩
            · cases he
          · rename_i n1 n2 haa1 haa2
            split at he
            · rename_i hcc
              cases he
              exact ⟨rfl, rf_cpy_ok hx hb hml hts hown wl hA hR hloc (Or.inr rfl) (Nat.not_lt.mp ha1) (Nat.not_lt.mp ha2) haa1 haa2 i1 i2 i3 hcc.1 hcc.2 (fun ty' a' k' z => by cases ty' <;> simp [rf_rd, va_up, z]) (rf_cpyL ad h.1 a1 a2 _ _ _) (by omega) (by rw [rf_cats]; omega) hd kk⟩
            · cases he
          · cases he
        · cases he
      · cases he
    · split at he
      · rename_i hk
        obtain ⟨w1, w2, w3, w4⟩ := hw.2.2.1 hk
        split at he
        · rename_i y x r
          split at he
          · rename_i h8
            cases he
            obtain ⟨r1, r2⟩ := rf_ok8_ok h8
            exact ⟨rfl, va_mmin hx hb hml hown (hts _ w1) (hts _ w2) (hts _ w3) (hts _ w4) (by omega) (by rw [rf_cats]; omega) hc hs hd (kk H locs hR hloc)⟩
          · cases he
        · cases he
      · split at he
        · rename_i hk
          obtain ⟨w1, w2, w3, w4⟩ := hw.2.2.2 hk
          split at he
          · rename_i y x r
            split at he
            · rename_i h8
              cases he
              obtain ⟨r1, r2⟩ := rf_ok8_ok h8
              exact ⟨rfl, va_mmax hx hb hml hown (hts _ w1) (hts _ w2) (hts _ w3) (hts _ w4) (by omega) (by rw [rf_cats]; omega) hc hs hd (kk H locs hR hloc)⟩
            · cases he
          · cases he
        · cases he
end RFB
