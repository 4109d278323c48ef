/-! TABLES OF CODE, CHECKED BY A PROGRAM -/
/-- what an instruction's link must be -/
def rf_wk (cx : rf_C) (ocl : List vw_C) (tb sp : List Cond) (str : List (String × Nat × String × Nat)) (stt : List (String × String × String × Value)) (own nm : String) (I : rf_I) : Prop := match rf_kd I.1 with
  | 4 => rf_wlk cx ocl tb sp own nm I.1 I.2
  | 5 => if 10 ≤ (I.2.headD (0, 0)).1 then ∃ idx : Nat, (((I.2.headD (0, 0)).1 = 10 ∧ I.1 = .invokespecial idx) ∨ ((I.2.headD (0, 0)).1 ≠ 10 ∧ I.1 = .invokestatic idx)) ∧ rf_wi8 tb own idx (I.2.headD (0, 0)).1 else rf_wc cx ocl tb sp own I.1 I.2
  | 7 => rf_wp tb str stt own I.1 I.2
  | _ => True
/-- instructions with a link -/
def rf_nl (I : Instr) : Bool := match I with
  | .getfield _ => true
  | .putfield _ => true
  | .new _ => true
  | .newarray _ => true
  | .anewarray _ => true
  | .invokevirtual _ => true
  | .invokespecial _ => true
  | .invokestatic _ => true
  | .ldc _ => true
  | .ldc2_w _ => true
  | .getstatic _ => true
  | _ => false
def rf_chk (lk : List (Bool × rf_I)) (ini : Bool) (b : ByteArray) (q : Nat × rf_I × Nat) : Bool :=
  (match decode b q.1 with
    | .ok (J, n) => decide (J = q.2.1.1) && (rf_iw q.2.1.1 || n == rf_len q.2.1.1)
    | _ => false) && (!(rf_kd q.2.1.1 == 3) || rf_wb q.2.1.1 q.2.1.2 q.1) && (!rf_nl q.2.1.1 || (match lk[q.2.2]? with
    | some e => decide (e.2 = q.2.1) && (!e.1 || ini)
    | none => false))
/-- a method's entry: its name, bytes, locals, answer; its class; its code (place, instruction, the number of its link in the class's list) -/
abbrev rf_E1 : Type := rf_Mt × Nat × List (Nat × rf_I × Nat)
def rf_mck (nmO : Nat → String) (lk : Nat → List (Bool × rf_I)) (e : rf_E1) : Bool := decide (e.1.1.cls = nmO e.2.1) && e.2.2.all (rf_chk (lk e.2.1) (e.1.1.name == "<init>") e.1.2.1)
def rf_dm : rf_E1 := ((⟨"", "", ""⟩, ⟨#[]⟩, 0, none), 0, [])
def rf_cx (ml : List rf_E1) (ty : Int → Nat → FieldType) (cl : List vw_C) (a0 : Nat) : rf_C := (fun i pc => ((ml.getD i rf_dm).2.2.find? (fun q => q.1 == pc)).map (fun q => q.2.1), fun i => (ml.getD i rf_dm).1, ty, cl, a0)
theorem rf_wk_nl {cx : rf_C} {ocl : List vw_C} {tb sp : List Cond} {str : List (String × Nat × String × Nat)} {stt : List (String × String × String × Value)} {own nm : String} {I : rf_I} (h : rf_nl I.1 = false) : rf_wk cx ocl tb sp str stt own nm I := by
  obtain ⟨I, aux⟩ := I
  cases I <;> first | exact trivial | (simp [rf_nl] at h)
theorem rf_wf_of {ml : List rf_E1} {ty : Int → Nat → FieldType} {cl : List vw_C} {a0 : Nat} {ocl : List vw_C} {tb sp : List Cond} {str : List (String × Nat × String × Nat)} {stt : List (String × String × String × Value)} {nmO : Nat → String} {lk : Nat → List (Bool × rf_I)}
    (hm : ∀ e ∈ ml, rf_mck nmO lk e = true) (hl : ∀ (c : Nat) (e : Bool × rf_I), e ∈ lk c → ∀ nm : String, (e.1 = true → nm = "<init>") → rf_wk (rf_cx ml ty cl a0) ocl tb sp str stt (nmO c) nm e.2) :
    ∀ (i pc : Nat) (I : rf_I), (rf_cx ml ty cl a0).1 i pc = some I → rf_wf (rf_cx ml ty cl a0) ocl tb sp str stt i pc I := by
  intro i pc I h
  have h0 : ((ml.getD i rf_dm).2.2.find? (fun q => q.1 == pc)).map (fun q => q.2.1) = some I := h
  obtain ⟨q, hq, hqI⟩ := Option.map_eq_some_iff.mp h0
  have hmem := List.mem_of_find?_eq_some hq
  have hpc : q.1 = pc := by simpa using List.find?_some hq
  have hi : i < ml.length := by
    rcases Nat.lt_or_ge i ml.length with z | z
    · exact z
    · have h9 : ml.getD i rf_dm = rf_dm := by simp [List.getD_eq_getElem?_getD, List.getElem?_eq_none z]
      rw [h9] at hmem
      cases hmem
  have hin : ml.getD i rf_dm ∈ ml := by
    rw [List.getD_eq_getElem?_getD, List.getElem?_eq_getElem hi]
    exact List.getElem_mem hi
  have hck := hm _ hin
  unfold rf_mck at hck
  simp only [Bool.and_eq_true, decide_eq_true_eq, List.all_eq_true] at hck
  obtain ⟨hc1, hc2⟩ := hck
  have hc3 := hc2 q hmem
  unfold rf_chk at hc3
  simp only [Bool.and_eq_true] at hc3
  obtain ⟨⟨c1, c2⟩, c3⟩ := hc3
  rw [hqI, hpc] at c1
  rw [hqI, hpc] at c2
  rw [hqI] at c3
  have hown : (((rf_cx ml ty cl a0).2.1 i).1).cls = nmO (ml.getD i rf_dm).2.1 := hc1
  have hwk : rf_wk (rf_cx ml ty cl a0) ocl tb sp str stt (((rf_cx ml ty cl a0).2.1 i).1).cls (((rf_cx ml ty cl a0).2.1 i).1).name I := by
    rw [hown]
    cases hn : rf_nl I.1 with
    | false => exact rf_wk_nl hn
    | true =>
      rw [hn] at c3
      rw [Bool.not_true, Bool.false_or] at c3
      split at c3
      · rename_i e9 he9
        simp only [Bool.and_eq_true, decide_eq_true_eq, Bool.or_eq_true, Bool.not_eq_true'] at c3
        obtain ⟨z1, z2⟩ := c3
        rw [← z1]
        refine hl _ e9 (List.mem_of_getElem? he9) _ (fun y => ?_)
        rcases z2 with z2 | z2
        · rw [y] at z2; cases z2
        · exact beq_iff_eq.mp z2
      · cases c3
  refine ⟨?_, ?_⟩
  · revert c1
    show (match decode (ml.getD i rf_dm).1.2.1 pc with
    | .ok (J, n) => decide (J = I.1) && (rf_iw I.1 || n == rf_len I.1)
    | _ => false) = true → ∃ len : Nat, decode (ml.getD i rf_dm).1.2.1 pc = .ok (I.1, len) ∧ (rf_iw I.1 = true ∨ len = rf_len I.1)
    intro c1
    split at c1
    · rename_i J n hd
      simp only [Bool.and_eq_true, decide_eq_true_eq, Bool.or_eq_true, beq_iff_eq] at c1
      refine ⟨n, ?_, c1.2⟩
      rw [hd, c1.1]
    · cases c1
  · unfold rf_wk at hwk
    split
    · rename_i hk
      rw [hk] at c2
      simpa using c2
    · rename_i hk
      rw [hk] at hwk
      exact hwk
    · rename_i hk
      rw [hk] at hwk
      exact hwk
    · rename_i hk
      rw [hk] at hwk
      exact hwk
    · trivial
