/-! ROWS OF ARRAYS ARE 0 behind the constructors: no code of theirs writes an int or a long into an array -/
def zr_i (I : Instr) : Bool := match I with
  | .iastore => false
  | .lastore => false
  | .bastore => false
  | .castore => false
  | _ => true
def zr_row (Ms : List Nat) (I : rf_I) : Bool := zr_i I.1 && (!(rf_kd I.1 == 5) || (!((I.2.headD (0, 0)).1 == 11) && I.2.tail.all (fun q => Ms.elem q.2)))
def zr_P (h : rf_H) : Prop := ∀ a, a < h.2.2.1 → ∀ q : FieldType × Nat, 1 < a → 22 ≤ a → h.2.1 a = .inr q → ∀ k, h.1.1 a k = 0 ∧ h.1.2.1 a k = 0
theorem zr_nw {h : rf_H} (hz : zr_P h) (s : rf_S) (N : Nat) : zr_P (rf_nw h s N) := by
  intro a ha q h1 h22 hs k
  have ha : a < h.2.2.1 + 1 := ha
  by_cases e : a = h.2.2.1
  · subst e
    exact ⟨by show va_up h.1.1 h.2.2.1 (fun _ => 0) h.2.2.1 k = 0; rw [va_up_self], by show va_up h.1.2.1 h.2.2.1 (fun _ => 0) h.2.2.1 k = 0; rw [va_up_self]⟩
  · have hs' : h.2.1 a = .inr q := by
      have : va_up h.2.1 h.2.2.1 s a = .inr q := hs
      unfold va_up at this
      rw [if_neg e] at this
      exact this
    obtain ⟨g1, g2⟩ := hz a (by omega) q h1 h22 hs' k
    refine ⟨?_, ?_⟩
    · show va_up h.1.1 h.2.2.1 (fun _ => 0) a k = 0
      unfold va_up
      rw [if_neg e]; exact g1
    · show va_up h.1.2.1 h.2.2.1 (fun _ => 0) a k = 0
      unfold va_up
      rw [if_neg e]; exact g2
theorem zr_wr {h : rf_H} (hz : zr_P h) {a ci k : Nat} {ty : FieldType} {v : Value} {M : rf_M} (ho : rf_ob h a = some ci) (hw : rf_wr h.1 ty a k v = some M) : zr_P (M, h.2) := by
  obtain ⟨-, w2, -⟩ := rf_wr_ok hw (fun x => x)
  have hsh : h.2.1 a = .inl ci := by
    unfold rf_ob at ho
    split at ho
    · split at ho
      · rename_i e; cases ho; exact e
      · cases ho
    · cases ho
  intro a' ha' q h1 h22 hs k'
  have hs : h.2.1 a' = .inr q := hs
  have hne : a' ≠ a := fun e => by rw [e, hsh] at hs; cases hs
  obtain ⟨g1, g2⟩ := hz a' ha' q h1 h22 hs k'
  have e1 : Value.int (M.1 a' k') = .int (h.1.1 a' k') := w2 .int a' k' (Or.inl hne)
  have e2 : Value.long (M.2.1 a' k') = .long (h.1.2.1 a' k') := w2 .long a' k' (Or.inl hne)
  injection e1 with e1
  injection e2 with e2
  exact ⟨e1.trans g1, e2.trans g2⟩
theorem zr_hp {cx : rf_C} {I : Instr} {aux : List (Int × Nat)} {st : List Value} {h : rf_H} {q : List Value × rf_H} (hi : zr_i I = true) (hz : zr_P h) (he : rf_hp cx I aux st h = some q) : zr_P q.2 := by
  unfold rf_hp at he
  split at he
  all_goals first
    | (cases hi; done)
    | skip
  · split at he
    · split at he
      · cases he; exact hz
      · cases he
    · cases he
  · split at he
    · cases he
    · split at he
      · rename_i ci ho
        split at he
        · split at he
          · rename_i M hw
            cases he
            exact zr_wr hz ho hw
          · cases he
        · cases he
      · cases he
  · split at he
    · cases he; exact hz
    · cases he
  · split at he
    · cases he; exact hz
    · cases he
  · split at he
    · cases he; exact hz
    · split at he
      · cases he; exact hz
      · cases he
  · split at he
    · cases he; exact hz
    · cases he
  · split at he
    · cases he; exact hz
    · cases he
  · split at he
    · split at he
      · cases he; exact hz
      · cases he
    · split at he
      · cases he; exact hz
      · cases he
    · cases he
  · split at he
    · cases he
    · split at he
      · split at he
        · cases he; exact hz
        · cases he
      · cases he
  · split at he
    · cases he
    · split at he
      · split at he
        · cases he; exact hz
        · cases he
      · cases he
  · split at he
    · cases he; exact hz
    · cases he
  · split at he
    · split at he
      · cases he; exact zr_nw hz _ _
      · cases he
    · cases he
  · split at he
    · cases he; exact zr_nw hz _ _
    · cases he
  · split at he
    · split at he
      · split at he
        · cases he; exact zr_nw hz _ _
        · cases he
      · cases he
    · cases he
  · cases he
theorem zr_bi {cx : rf_C} {kd : Int} {d : Nat × Nat} {st : List Value} {h : rf_H} {q : List Value × rf_H} (hk : ¬ kd = 11) (hz : zr_P h) (he : rf_bi cx kd d st h = some q) : zr_P q.2 := by
  unfold rf_bi at he
  split at he
  · split at he
    · split at he
      · cases he; exact hz
      · cases he
    · cases he
  · split at he
    · split at he
      · split at he
        · cases he; exact hz
        · cases he
      · cases he
    · split at he
      · split at he
        · split at he
          · cases he; exact hz
          · cases he
        · cases he
      · cases he
theorem zr_ca {cx : rf_C} {I : Instr} {aux : List (Int × Nat)} {st : List Value} {h : rf_H} {q : Nat × List Value × List Value} (he : rf_ca cx I aux st h = some q) : ∃ z ∈ aux.tail, z.2 = q.1 := by
  unfold rf_ca at he
  split at he
  · rename_i q0 tg
    split at he
    · split at he
      · split at he
        · rename_i j hj
          split at he
          · cases he
            unfold rf_lk at hj
            obtain ⟨z, z1, z2⟩ := Option.map_eq_some_iff.mp hj
            exact ⟨z, List.mem_of_find?_eq_some z1, z2⟩
          · cases he
        · cases he
      · cases he
    · split at he
      · split at he
        · cases he; exact ⟨_, List.mem_singleton_self _, rfl⟩
        · cases he
      · cases he
    · split at he
      · split at he
        · cases he; exact ⟨_, List.mem_singleton_self _, rfl⟩
        · cases he
      · cases he
    · cases he
  · cases he
theorem zr_ev {cx : rf_C} {Ms : List Nat} (hM : ∀ i ∈ Ms, ∀ pc I, cx.1 i pc = some I → zr_row Ms I = true) : ∀ (n : Nat) (d : Nat × Nat) (i pc : Nat) (ls : rf_L) (st : List Value) (h : rf_H) (x : Option Value × rf_H), i ∈ Ms → zr_P h → rf_ev cx n d i pc ls st h = some x → zr_P x.2 := by
  intro n
  induction n with
  | zero =>
    intro d i pc ls st h x _ _ he
    unfold rf_ev at he
    cases he
  | succ n ih =>
    intro d i pc ls st h x hi hz he
    unfold rf_ev at he
    cases hf : cx.1 i pc with
    | none => rw [hf] at he; cases he
    | some I =>
      rw [hf] at he
      dsimp only at he
      have hrow := hM i hi pc I hf
      unfold zr_row at hrow
      simp only [Bool.and_eq_true, Bool.not_eq_true', Bool.or_eq_true] at hrow
      obtain ⟨r1, r3⟩ := hrow
      cases hx : rf_ex cx d i pc I ls st h with
      | none => rw [hx] at he; cases he
      | some o =>
        rw [hx] at he
        unfold rf_ex at hx
        rcases o with q | q | v
        · have hz' : zr_P q.2.2.2 := by
            split at hx
            · obtain ⟨y, y1, y2⟩ := Option.map_eq_some_iff.mp hx; cases y2; exact hz
            · obtain ⟨y, y1, y2⟩ := Option.map_eq_some_iff.mp hx; cases y2; exact hz
            · obtain ⟨y, y1, y2⟩ := Option.map_eq_some_iff.mp hx; cases y2; exact hz
            · obtain ⟨y, y1, y2⟩ := Option.map_eq_some_iff.mp hx; cases y2; exact hz
            · obtain ⟨y, y1, y2⟩ := Option.map_eq_some_iff.mp hx; cases y2; exact zr_hp r1 hz y1
            · rename_i hk5
              split at hx
              · obtain ⟨y, y1, y2⟩ := Option.map_eq_some_iff.mp hx
                cases y2
                rcases r3 with r3 | r3
                · rw [hk5] at r3; cases r3
                · exact zr_bi (by simpa using r3.1) hz y1
              · obtain ⟨y, y1, y2⟩ := Option.map_eq_some_iff.mp hx; cases y2
            · obtain ⟨y, y1, y2⟩ := Option.map_eq_some_iff.mp hx; cases y2
            · obtain ⟨y, y1, y2⟩ := Option.map_eq_some_iff.mp hx; cases y2; exact hz
            · cases hx
          exact ih _ _ _ _ _ _ _ hi hz' he
        · have hj : q.1 ∈ Ms := by
            split at hx
            · obtain ⟨y, y1, y2⟩ := Option.map_eq_some_iff.mp hx; cases y2
            · obtain ⟨y, y1, y2⟩ := Option.map_eq_some_iff.mp hx; cases y2
            · obtain ⟨y, y1, y2⟩ := Option.map_eq_some_iff.mp hx; cases y2
            · obtain ⟨y, y1, y2⟩ := Option.map_eq_some_iff.mp hx; cases y2
            · obtain ⟨y, y1, y2⟩ := Option.map_eq_some_iff.mp hx; cases y2
            · rename_i hk5
              split at hx
              · obtain ⟨y, y1, y2⟩ := Option.map_eq_some_iff.mp hx; cases y2
              · obtain ⟨y, y1, y2⟩ := Option.map_eq_some_iff.mp hx
                cases y2
                obtain ⟨z, z1, z2⟩ := zr_ca y1
                rcases r3 with r3 | r3
                · rw [hk5] at r3; cases r3
                · rw [← z2]
                  exact List.elem_iff.mp (List.all_eq_true.mp r3.2 z z1)
            · obtain ⟨y, y1, y2⟩ := Option.map_eq_some_iff.mp hx; cases y2
            · obtain ⟨y, y1, y2⟩ := Option.map_eq_some_iff.mp hx; cases y2
            · cases hx
          dsimp only at he
          split at he
          · cases hcal : rf_ev cx n (d.1 - 1, d.2 - ((cx.2.1 q.1).2.2.1 + 19)) q.1 0 (lv_args 0 q.2.1) [] h with
            | none => rw [hcal] at he; cases he
            | some r =>
              rw [hcal] at he
              have hz' : zr_P h := hz
              exact ih _ _ _ _ _ _ _ hi (ih _ _ _ _ _ _ _ hj hz' hcal) he
          · cases he
        · cases he
          split at hx
          all_goals first
            | exact hz
            | skip
