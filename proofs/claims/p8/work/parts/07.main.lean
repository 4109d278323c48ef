/-! THE REFLECTION IS TRUE: calls, and the whole -/
/-- words that the frame's tables keep, though they are none of those that 'keeps' names -/
def rf_spk : Cond → Bool
  | .fieldLinkNest _ _ _ _ _ _ => true
  | .methodLinkNest _ _ _ _ => true
  | .declares _ => true
  | .castable _ _ => true
  | .arrayOver (.object _) => true
  | _ => false
theorem rf_sp_warm {w : Cond} (hk : rf_spk w = true) {s U : State} (hW : s.WarmedH U.vm) (hz : w.before #[] s = true) : w.before #[] U = true := by
  unfold rf_spk at hk
  split at hk
  · exact va_Nw.warmF hW hz
  · exact va_Nw.warmM hW hz
  · exact va_Nw.warmD hW hz
  · exact va_Nw.warmC hW hz
  · exact va_AO.moved hW.alike hz
  · cases hk
theorem rf_sp_same {w : Cond} (hk : rf_spk w = true) {s U : State} (hv : s.vm = U.vm) (hz : w.before #[] s = true) : w.before #[] U = true := by
  unfold rf_spk at hk
  split at hk
  · exact va_Nw.same rfl hv hz
  · exact va_Nw.same rfl hv hz
  · exact va_Nw.same rfl hv hz
  · exact va_Nw.same rfl hv hz
  · exact va_AO.moved (by rw [hv]; exact Vm.Alike.refl _) hz
  · cases hk
/-- beside the heap: the special words, the constant texts, the static numbers -/
def rf_E (sp : List Cond) (str : List (String × Nat × String × Nat)) (stt : List (String × String × String × Value)) (OH : Heap) (ad : Nat → Nat) (base : Nat) (U : State) : Prop :=
  (∀ w ∈ sp, w.before #[] U = true) ∧ (∀ q ∈ str, vk_R q.1 q.2.1 q.2.2.1 (ad q.2.2.2) U) ∧ ∀ q ∈ stt, va_Z q.1 q.2.1 q.2.2.1 (rf_cv ad q.2.2.2) (fun x => base ≤ x) U OH
theorem rf_E.warm {sp : List Cond} {str : List (String × Nat × String × Nat)} {stt : List (String × String × String × Value)} {OH : Heap} {ad : Nat → Nat} {base : Nat} {s U : State} (hs : ∀ w ∈ sp, rf_spk w = true) (hW : s.WarmedH U.vm) (h : rf_E sp str stt OH ad base s) : rf_E sp str stt OH ad base U :=
  ⟨fun w hw => rf_sp_warm (hs w hw) hW (h.1 w hw), fun q hq => vk_R.warm hW (h.2.1 q hq), fun q hq => va_Z.moved hW.alike (h.2.2 q hq)⟩
theorem rf_E.same {sp : List Cond} {str : List (String × Nat × String × Nat)} {stt : List (String × String × String × Value)} {OH : Heap} {ad : Nat → Nat} {base : Nat} {s U : State} (hs : ∀ w ∈ sp, rf_spk w = true) (hv : s.vm = U.vm) (h : rf_E sp str stt OH ad base s) : rf_E sp str stt OH ad base U :=
  ⟨fun w hw => rf_sp_same (hs w hw) hv (h.1 w hw), fun q hq => vk_R.same hv.symm (h.2.1 q hq), fun q hq => va_Z.moved (by rw [hv]; exact Vm.Alike.refl _) (h.2.2 q hq)⟩
def rf_ws (cx : rf_C) (tb : List Cond) (i : Nat) : List Cond := Cond.code (cx.2.1 i).1 (cx.2.1 i).2.1 (cx.2.1 i).2.2.1 (cx.2.1 i).2.2.2 :: tb
/-- a method that may be called -/
def rf_mo (cx : rf_C) (tb : List Cond) (np j : Nat) : Prop := Cond.code (cx.2.1 j).1 (cx.2.1 j).2.1 (cx.2.1 j).2.2.1 (cx.2.1 j).2.2.2 ∈ tb ∧ plainName (cx.2.1 j).1.cls = true ∧ ((cx.2.1 j).1.cls ≠ "java/lang/invoke/MethodHandle" ∧ (cx.2.1 j).1.cls ≠ "java/lang/invoke/VarHandle") ∧ (parseMethodDescriptor (cx.2.1 j).1.desc).map (fun d => d.parameters.length) = some np ∧ Cond.initialized (cx.2.1 j).1.cls ∈ tb
def rf_nm (cx : rf_C) (ocl : List vw_C) (z : Int) : Option String := if 0 ≤ z then (cx.2.2.2.1[z.toNat]?).map (fun q => q.1) else (ocl[(-z - 1).toNat]?).map (fun q => q.1)
/-- what a table of code says of its calls -/
def rf_wc (cx : rf_C) (ocl : List vw_C) (tb sp : List Cond) (own : String) (I : Instr) (aux : List (Int × Nat)) : Prop := match aux with
  | [] => False
  | q0 :: tg => match I with
    | .invokevirtual idx => ∀ q ∈ tg, rf_mo cx tb q0.2 q.2 ∧ Cond.instanceMethod (cx.2.1 q.2).1 ∈ tb ∧ ∃ C : String, rf_nm cx ocl q.1 = some C ∧
        ((Cond.methodLink own idx (cx.2.1 q.2).1 ∈ tb ∧ Cond.selects C (cx.2.1 q.2).1 (cx.2.1 q.2).1 ∈ tb) ∨
         (∃ (x : MethodName) (owner : String), Cond.methodLink own idx x ∈ tb ∧ Cond.sameMethod x.cls owner x.name x.desc ∈ tb ∧ (owner ≠ "java/lang/invoke/MethodHandle" ∧ owner ≠ "java/lang/invoke/VarHandle") ∧ Cond.declares ⟨owner, x.name, x.desc⟩ ∈ sp ∧ Cond.selects C x (cx.2.1 q.2).1 ∈ tb ∧ x.desc = (cx.2.1 q.2).1.desc) ∨
         (∃ host : String, Cond.methodLinkNest own idx (cx.2.1 q.2).1 host ∈ sp ∧ Cond.selects C (cx.2.1 q.2).1 (cx.2.1 q.2).1 ∈ tb))
    | .invokespecial idx => ∀ q ∈ tg, rf_mo cx tb q0.2 q.2 ∧ Cond.instanceMethod (cx.2.1 q.2).1 ∈ tb ∧ (cx.2.1 q.2).1.name = "<init>" ∧ (cx.2.1 q.2).2.2.2 = none ∧ (Cond.methodLink own idx (cx.2.1 q.2).1 ∈ tb ∨ ∃ host : String, Cond.methodLinkNest own idx (cx.2.1 q.2).1 host ∈ sp)
    | .invokestatic idx => ∀ q ∈ tg, rf_mo cx tb q0.2 q.2 ∧ Cond.static (cx.2.1 q.2).1 ∈ tb ∧ (Cond.methodLink own idx (cx.2.1 q.2).1 ∈ tb ∨ ∃ host : String, Cond.methodLinkNest own idx (cx.2.1 q.2).1 host ∈ sp)
    | _ => True
/-- what a table of code says of its constants -/
def rf_wp (tb : List Cond) (str : List (String × Nat × String × Nat)) (stt : List (String × String × String × Value)) (own : String) (I : Instr) (aux : List (Int × Nat)) : Prop := match aux, I with
  | [(0, k)], .ldc idx => Cond.constant own idx (Int32.ofNat k) ∈ tb
  | [(1, k)], .ldc2_w idx => Cond.constantLong own idx (Int64.ofNat k) ∈ tb
  | [(2, a)], .ldc idx => ∃ tx : String, (own, idx, tx, a) ∈ str
  | [(0, k)], .getstatic idx => ∃ C n d : String, (C, n, d, Value.int (Int32.ofNat k)) ∈ stt ∧ Cond.fieldLink own idx C n d ∈ tb
  | [(2, a)], .getstatic idx => ∃ C n d : String, (C, n, d, Value.ref a) ∈ stt ∧ Cond.fieldLink own idx C n d ∈ tb
  | [(3, _)], .getstatic idx => ∃ C n d : String, (C, n, d, Value.null) ∈ stt ∧ Cond.fieldLink own idx C n d ∈ tb
  | _, _ => False
def rf_iw (I : Instr) : Bool := match I with
  | .tableswitch _ _ _ _ => true
  | .lookupswitch _ _ => true
  | _ => false
/-- a table of code is right -/
def rf_wf (cx : rf_C) (ocl : List vw_C) (tb sp : List Cond) (str : List (String × Nat × String × Nat)) (stt : List (String × String × String × Value)) (i pc : Nat) (I : rf_I) : Prop :=
  (∃ len : Nat, decode (cx.2.1 i).2.1 pc = .ok (I.1, len) ∧ (rf_iw I.1 = true ∨ len = rf_len I.1)) ∧
  match rf_kd I.1 with
  | 3 => rf_wb I.1 I.2 pc = true
  | 4 => rf_wlk cx ocl tb sp (cx.2.1 i).1.cls (cx.2.1 i).1.name I.1 I.2
  | 5 => if 10 ≤ (I.2.headD (0, 0)).1 then ∃ idx : Nat, (((I.2.headD (0, 0)).1 = 10 ∧ I.1 = .invokespecial idx) ∨ ((I.2.headD (0, 0)).1 ≠ 10 ∧ I.1 = .invokestatic idx)) ∧ rf_wi8 tb (cx.2.1 i).1.cls idx (I.2.headD (0, 0)).1 else rf_wc cx ocl tb sp (cx.2.1 i).1.cls I.1 I.2
  | 7 => rf_wp tb str stt (cx.2.1 i).1.cls I.1 I.2
  | _ => True
theorem rf_args_map (ad : Nat → Nat) : ∀ (vs : List Value) (k : Nat), lv_args k (vs.map (rf_cv ad)) = (lv_args k vs).map (fun q => (q.1, rf_cv ad q.2)) := by
  intro vs
  induction vs with
  | nil => intro k; rfl
  | cons v t ih =>
    intro k
    show (k, rf_cv ad v) :: lv_args (if (rf_cv ad v).category = 2 then k + 2 else k + 1) (t.map (rf_cv ad)) = _
    rw [rf_cat, ih]
    rfl
theorem rf_sl_map (ad : Nat → Nat) (vs : List Value) : (lg_sl (vs.map (rf_cv ad))).length = (lg_sl vs).length := by
  induction vs with
  | nil => rfl
  | cons v t ih =>
    simp only [lg_sl, List.map_cons, List.flatMap_cons, List.length_append] at ih ⊢
    rw [ih, rf_cat]
    by_cases hc : v.category = 2 <;> simp [hc]
theorem rf_hp_mono {cx : rf_C} {I : Instr} {aux : List (Int × Nat)} {st : List Value} {h : rf_H} {q' : List Value × rf_H} (he : rf_hp cx I aux st h = some q') : h.2.2.1 ≤ q'.2.2.2.1 ∧ h.2.2.2 ≤ q'.2.2.2.2 := by
  unfold rf_hp at he
  repeat' split at he
  all_goals first
    | (cases he; done)
    | (cases he; exact ⟨Nat.le_refl _, Nat.le_refl _⟩)
    | (cases he; exact ⟨Nat.le_succ _, Nat.le_add_right _ _⟩)
theorem rf_bi_same {cx : rf_C} {kd : Int} {d : Nat × Nat} {st : List Value} {h : rf_H} {q' : List Value × rf_H} (he : rf_bi cx kd d st h = some q') : q'.2.2 = h.2 := by
  unfold rf_bi at he
  repeat' split at he
  all_goals first
    | (cases he; done)
    | (cases he; rfl)
