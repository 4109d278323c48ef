theorem pt_wi {row : Nat → Int32} {M : rf_M} {a : Nat} (ha : a ≠ 1) (k : Nat) (x : Int32) : rf_wi (pt_M row M) a k x = pt_M row (rf_wi M a k x) := by
  show (va_up (va_up M.1 1 row) a (va_up (va_up M.1 1 row a) k x), M.2.1, M.2.2) = (va_up (va_up M.1 a (va_up (M.1 a) k x)) 1 row, M.2.1, M.2.2)
  rw [up_comm M.1 _ _ ha, va_up_ne _ _ ha]
theorem pt_wl {row : Nat → Int32} {M : rf_M} {a : Nat} (k : Nat) (x : Int64) : rf_wl (pt_M row M) a k x = pt_M row (rf_wl M a k x) := rfl
theorem pt_wr {row : Nat → Int32} {M M' : rf_M} {ty : FieldType} {a : Nat} (ha : a ≠ 1) {k : Nat} {v : Value} (h : rf_wr M ty a k v = some M') : rf_wr (pt_M row M) ty a k v = some (pt_M row M') := by
  unfold rf_wr at h ⊢
  split at h
  · cases h; simp only [pt_wi ha]
  · cases h; rfl
  · cases h; rfl
  · cases h; rfl
  · cases h; rfl
  · cases h; rfl
  · split at h
    · rename_i hc; cases h; simp only [pt_wi ha]; rw [if_pos hc]
    · cases h
  · split at h
    · rename_i hc; cases h; simp only [pt_wi ha]; rw [if_pos hc]
    · cases h
  · split at h
    · rename_i hc; cases h; simp only [pt_wi ha]; rw [if_pos hc]
    · cases h
  · split at h
    · rename_i hc; cases h; simp only [pt_wi ha]; rw [if_pos hc]
    · cases h
  · cases h
section PT

variable {row : Nat → Int32} {sh : rf_S} {h : rf_H}

theorem pt_ob {a : Nat} (ha : a ≠ 1) : rf_ob (pt_H row sh h) a = rf_ob h a := by
  unfold rf_ob
  show (if 0 < a ∧ a < h.2.2.1 then (match va_up h.2.1 1 sh a with | .inl ci => some ci | .inr _ => none) else none) = _
  rw [va_up_ne _ _ ha]
  rfl
theorem pt_aa {a : Nat} (ha : a ≠ 1) : rf_aa (pt_H row sh h) a = rf_aa h a := by
  unfold rf_aa
  show (if 0 < a ∧ a < h.2.2.1 then (match va_up h.2.1 1 sh a with | .inr q => some q | .inl _ => none) else none) = _
  rw [va_up_ne _ _ ha]
  rfl
theorem pt_ne_aa (hp : h.2.1 1 = .inl pt_P) {a : Nat} {q : FieldType × Nat} (hq : rf_aa h a = some q) : a ≠ 1 := by
  intro z
  subst z
  obtain ⟨-, -, h2⟩ := rf_aa_ok hq
  rw [hp] at h2
  cases h2
theorem pt_el (hp : h.2.1 1 = .inl pt_P) {ty : FieldType} {a : Nat} {j : Int32} {v : Value} (he : rf_el h ty a j = some v) : a ≠ 1 ∧ rf_el (pt_H row sh h) ty a j = some v := by
  obtain ⟨n, h1, h2, rfl⟩ := rf_el_ok he
  have ha := pt_ne_aa hp h1
  refine ⟨ha, ?_⟩
  unfold rf_el
  rw [pt_aa ha, h1]
  show (if ty = ty ∧ ¬ (j < 0 ∨ n ≤ j.toNatClampNeg) then some (rf_rd (pt_M row h.1) ty a j.toNatClampNeg) else none) = _
  rw [if_pos ⟨rfl, h2⟩, pt_rd ha]
theorem pt_nw (h22 : 1 < h.2.2.1) (s : rf_S) (N : Nat) : rf_nw (pt_H row sh h) s N = pt_H row sh (rf_nw h s N) := by
  have hne : h.2.2.1 ≠ 1 := by omega
  unfold rf_nw pt_H pt_M
  show ((va_up (va_up h.1.1 1 row) h.2.2.1 (fun _ => 0), va_up h.1.2.1 h.2.2.1 (fun _ => 0), va_up h.1.2.2 h.2.2.1 (fun _ => none)), va_up (va_up h.2.1 1 sh) h.2.2.1 s, h.2.2.1 + 1, h.2.2.2 + N) = _
  rw [up_comm h.1.1 _ _ (Ne.symm hne), up_comm h.2.1 _ _ (Ne.symm hne)]
theorem pt_elq {a : Nat} (ha : a ≠ 1) (ty : FieldType) (j : Int32) : rf_el (pt_H row sh h) ty a j = rf_el h ty a j := by
  unfold rf_el
  rw [pt_aa ha]
  cases rf_aa h a with
  | none => rfl
  | some q =>
    show (if q.1 = ty ∧ ¬ (j < 0 ∨ q.2 ≤ j.toNatClampNeg) then some (rf_rd (pt_M row h.1) ty a j.toNatClampNeg) else none) = _
    rw [pt_rd ha]
theorem pt_sh (hn : 1 < h.2.2.1) (hp : h.2.1 1 = .inl pt_P) (s : rf_S) (N : Nat) : (rf_nw h s N).2.1 1 = .inl pt_P ∧ 1 < (rf_nw h s N).2.2.1 := by
  refine ⟨?_, by show 1 < h.2.2.1 + 1; omega⟩
  show va_up h.2.1 h.2.2.1 s 1 = _
  rw [va_up_ne _ _ (by omega)]
  exact hp
/-- no table names the poison -/
def pt_no (cx : rf_C) : Prop := 1 < cx.2.2.2.2 ∧ ∀ (i pc : Nat) (I : rf_I), cx.1 i pc = some I → ∀ q ∈ I.2, q.1 ≠ rf_ky cx.2.2.2.2 1 pt_P ∧ q.1 ≠ (pt_P : Int)
set_option maxHeartbeats 4000000 in
theorem pt_hp {cx : rf_C} {I : Instr} {aux : List (Int × Nat)} (h1 : 1 < cx.2.2.2.2) (hno : ∀ q ∈ aux, q.1 ≠ rf_ky cx.2.2.2.2 1 pt_P ∧ q.1 ≠ (pt_P : Int)) (hp : h.2.1 1 = .inl pt_P) (hn : 1 < h.2.2.1) {st : List Value} {q' : List Value × rf_H} (he : rf_hp cx I aux st h = some q') : rf_hp cx I aux st (pt_H row sh h) = some (q'.1, pt_H row sh q'.2) ∧ q'.2.2.1 1 = .inl pt_P ∧ 1 < q'.2.2.2.1 := by
  have key : ∀ {a ci k : Nat}, rf_ob h a = some ci → rf_lk aux (rf_ky cx.2.2.2.2 a ci) = some k → a ≠ 1 := by
    intro a ci k h2 h3 z
    subst z
    obtain ⟨-, -, h4⟩ := rf_ob_ok h2
    rw [hp] at h4
    cases h4
    exact (hno _ (rf_lk_ok h3)).1 rfl
  have keyw : ∀ {a : Nat}, ¬ a < cx.2.2.2.2 → a ≠ 1 := fun z1 z2 => z1 (by rw [z2]; exact h1)
  unfold rf_hp at he ⊢
  split at he
  · split at he
    · rename_i ci hob
      split at he
      · rename_i k hlk
        cases he
        have ha := key hob hlk
        refine ⟨?_, hp, hn⟩
        dsimp only
        rw [pt_ob ha, hob]
        dsimp only
        rw [hlk]
        dsimp only
        exact congrArg (fun z => some (z :: _, pt_H row sh h)) (pt_rd ha _ _)
      · cases he
    · cases he
  · split at he
    · cases he
    · rename_i hlt
      have ha := keyw hlt
      split at he
      · rename_i ci hob
        split at he
        · rename_i k hlk
          split at he
          · rename_i M hwr
            cases he
            refine ⟨?_, hp, hn⟩
            dsimp only
            rw [if_neg hlt, pt_ob ha, hob]
            dsimp only
            rw [hlk]
            dsimp only
            have hw2 := pt_wr (row := row) ha hwr
            show (match rf_wr (pt_M row h.1) _ _ _ _ with | some M => some (_, (M, (pt_H row sh h).2)) | none => none) = _
            rw [hw2]
            rfl
          · cases he
        · cases he
      · cases he
  · split at he
    · rename_i v hv
      cases he
      have ha := (pt_el (row := row) (sh := sh) hp hv).1
      refine ⟨?_, hp, hn⟩
      dsimp only
      rw [pt_elq ha, hv]
    · cases he
  · split at he
    · rename_i v hv
      cases he
      have ha := (pt_el (row := row) (sh := sh) hp hv).1
      refine ⟨?_, hp, hn⟩
      dsimp only
      rw [pt_elq ha, hv]
    · cases he
  · split at he
    · rename_i v hv
      cases he
      have ha := (pt_el (row := row) (sh := sh) hp hv).1
      refine ⟨?_, hp, hn⟩
      dsimp only
      rw [pt_elq ha, hv]
    · rename_i hv0
      split at he
      · rename_i v hv
        cases he
        have ha := (pt_el (row := row) (sh := sh) hp hv).1
        refine ⟨?_, hp, hn⟩
        dsimp only
        rw [pt_elq ha, hv0]
        dsimp only
        rw [pt_elq ha, hv]
      · cases he
  · split at he
    · rename_i v hv
      cases he
      have ha := (pt_el (row := row) (sh := sh) hp hv).1
      refine ⟨?_, hp, hn⟩
      dsimp only
      rw [pt_elq ha, hv]
    · cases he
  · split at he
    · rename_i v hv
      cases he
      have ha := (pt_el (row := row) (sh := sh) hp hv).1
      refine ⟨?_, hp, hn⟩
      dsimp only
      rw [pt_elq ha, hv]
    · cases he
  · split at he
    · rename_i haa
      split at he
      · rename_i v hv
        cases he
        have ha := (pt_el (row := row) (sh := sh) hp hv).1
        refine ⟨?_, hp, hn⟩
        dsimp only
        rw [pt_aa ha, haa]
        dsimp only
        rw [pt_elq ha, hv]
      · cases he
    · rename_i haa
      split at he
      · rename_i v hv
        cases he
        have ha := (pt_el (row := row) (sh := sh) hp hv).1
        refine ⟨?_, hp, hn⟩
        dsimp only
        rw [pt_aa ha, haa]
        dsimp only
        rw [pt_elq ha, hv]
      · cases he
    · cases he
  · split at he
    · cases he
    · rename_i hlt
      have ha := keyw hlt
      split at he
      · rename_i v hv
        cases he
        refine ⟨?_, hp, hn⟩
        dsimp only
        rw [if_neg hlt, pt_elq ha, hv]
        exact congrArg (fun z : rf_M => some (_, (z, (pt_H row sh h).2))) (pt_wi ha _ _)
      · cases he
  · split at he
    · cases he
    · rename_i hlt
      have ha := keyw hlt
      split at he
      · rename_i v hv
        cases he
        refine ⟨?_, hp, hn⟩
        dsimp only
        rw [if_neg hlt, pt_elq ha, hv]
        exact congrArg (fun z : rf_M => some (_, (z, (pt_H row sh h).2))) (pt_wl _ _)
      · cases he
  · split at he
    · cases he
    · rename_i hlt
      have ha := keyw hlt
      split at he
      · rename_i v hv
        cases he
        refine ⟨?_, hp, hn⟩
        dsimp only
        rw [if_neg hlt, pt_elq ha, hv]
        exact congrArg (fun z : rf_M => some (_, (z, (pt_H row sh h).2))) (pt_wi ha _ _)
      · rename_i hv0
        split at he
        · rename_i v hv
          cases he
          refine ⟨?_, hp, hn⟩
          dsimp only
          rw [if_neg hlt, pt_elq ha, hv0]
          dsimp only
          rw [pt_elq ha, hv]
          exact congrArg (fun z : rf_M => some (_, (z, (pt_H row sh h).2))) (pt_wi ha _ _)
        · cases he
  · split at he
    · cases he
    · rename_i hlt
      have ha := keyw hlt
      split at he
      · rename_i v hv
        cases he
        refine ⟨?_, hp, hn⟩
        dsimp only
        rw [if_neg hlt, pt_elq ha, hv]
        exact congrArg (fun z : rf_M => some (_, (z, (pt_H row sh h).2))) (pt_wi ha _ _)
      · cases he
  · split at he
    · cases he
    · rename_i hlt
      have ha := keyw (fun z => hlt (Or.inl z))
      have hb := keyw (fun z => hlt (Or.inr z))
      split at he
      · rename_i haa hob
        split at he
        · rename_i hc
          cases he
          refine ⟨?_, hp, hn⟩
          dsimp only
          rw [if_neg hlt, pt_aa ha, pt_ob hb, haa, hob]
          dsimp only
          rw [if_pos hc]
          rfl
        · cases he
      · cases he
  · split at he
    · cases he
    · rename_i hlt
      have ha := keyw hlt
      split at he
      · rename_i haa
        split at he
        · rename_i hc
          cases he
          refine ⟨?_, hp, hn⟩
          dsimp only
          rw [if_neg hlt, pt_aa ha, haa]
          dsimp only
          rw [if_pos hc]
          rfl
        · cases he
      · cases he
  · split at he
    · rename_i q hq
      cases he
      have ha := pt_ne_aa hp hq
      refine ⟨?_, hp, hn⟩
      dsimp only
      rw [pt_aa ha, hq]
    · cases he
  · split at he
    · split at he
      · rename_i q hq
        cases he
        obtain ⟨z1, z2⟩ := pt_sh hn hp _ _
        refine ⟨?_, z1, z2⟩
        dsimp only
        rw [pt_nw hn]
        rfl
      · cases he
    · cases he
  · split at he
    · rename_i hc
      cases he
      obtain ⟨z1, z2⟩ := pt_sh hn hp _ _
      refine ⟨?_, z1, z2⟩
      dsimp only
      rw [if_pos hc, pt_nw hn]
      rfl
    · cases he
  · split at he
    · split at he
      · rename_i q hq
        split at he
        · rename_i hc
          cases he
          obtain ⟨z1, z2⟩ := pt_sh hn hp _ _
          refine ⟨?_, z1, z2⟩
          dsimp only
          rw [if_pos hc, pt_nw hn]
          rfl
        · cases he
      · cases he
    · cases he
  · cases he
set_option maxHeartbeats 4000000 in
theorem pt_bi {cx : rf_C} {kd : Int} {d : Nat × Nat} (h1 : 1 < cx.2.2.2.2) (hp : h.2.1 1 = .inl pt_P) (hn : 1 < h.2.2.1) {st : List Value} {q' : List Value × rf_H} (he : rf_bi cx kd d st h = some q') : rf_bi cx kd d st (pt_H row sh h) = some (q'.1, pt_H row sh q'.2) ∧ q'.2.2.1 1 = .inl pt_P ∧ 1 < q'.2.2.2.1 := by
  have keyw : ∀ {a : Nat}, ¬ a < cx.2.2.2.2 → a ≠ 1 := fun z1 z2 => z1 (by rw [z2]; exact h1)
  unfold rf_bi at he ⊢
  split at he
  · rename_i hk
    rw [if_pos hk]
    split at he
    · split at he
      · rename_i h8
        cases he
        refine ⟨?_, hp, hn⟩
        rw [if_pos h8]
      · cases he
    · cases he
  · rename_i hk
    rw [if_neg hk]
    split at he
    · rename_i hk
      rw [if_pos hk]
      split at he
      · split at he
        · rename_i h8
          have ha := keyw h8.2.1
          have hb := keyw h8.2.2.1
          rw [if_pos h8, pt_aa ha, pt_aa hb]
          split at he
          · rename_i e1 e2
            split at he
            · rename_i hc
              cases he
              refine ⟨?_, hp, hn⟩
              rw [if_pos hc]
              refine congrArg (fun z : rf_M => some (_, (z, (pt_H row sh h).2))) ?_
              show (va_up (va_up h.1.1 1 row) _ (va_cpy (va_up h.1.1 1 row _) (va_up h.1.1 1 row _) _ _ _), h.1.2.1, h.1.2.2) = (va_up (va_up h.1.1 _ _) 1 row, h.1.2.1, h.1.2.2)
              rw [va_up_ne _ _ ha, va_up_ne _ _ hb, up_comm h.1.1 _ _ ha]
            · cases he
          · rename_i e1 e2
            split at he
            · rename_i hc
              cases he
              refine ⟨?_, hp, hn⟩
              rw [if_pos hc]
              rfl
            · cases he
          · cases he
        · cases he
      · cases he
    · rename_i hk
      rw [if_neg hk]
      split at he
      · rename_i hk
        rw [if_pos hk]
        split at he
        · split at he
          · rename_i h8
            cases he
            refine ⟨?_, hp, hn⟩
            rw [if_pos h8]
          · cases he
        · cases he
      · rename_i hk
        rw [if_neg hk]
        split at he
        · rename_i hk
          rw [if_pos hk]
          split at he
          · split at he
            · rename_i h8
              cases he
              refine ⟨?_, hp, hn⟩
              rw [if_pos h8]
            · cases he
          · cases he
        · cases he
theorem pt_ca {cx : rf_C} {I : Instr} {aux : List (Int × Nat)} (hno : ∀ q ∈ aux, q.1 ≠ rf_ky cx.2.2.2.2 1 pt_P ∧ q.1 ≠ (pt_P : Int)) (hp : h.2.1 1 = .inl pt_P) {st : List Value} {q : Nat × List Value × List Value} (he : rf_ca cx I aux st h = some q) : rf_ca cx I aux st (pt_H row sh h) = some q := by
  unfold rf_ca at he ⊢
  split at he
  · rename_i q0 tg
    split at he
    · rename_i a r heq
      split at he
      · rename_i ci hob
        split at he
        · rename_i j hlk
          have ha : a ≠ 1 := fun z => by
            subst z
            obtain ⟨-, -, h4⟩ := rf_ob_ok hob
            rw [hp] at h4
            cases h4
            exact (hno _ (List.mem_cons_of_mem _ (rf_lk_ok hlk))).1 rfl
          rw [pt_ob ha, hob]
          dsimp only
          rw [hlk]
          exact he
        · cases he
      · cases he
    · exact he
    · exact he
    · cases he
  · cases he
set_option maxHeartbeats 4000000 in
theorem pt_ev {cx : rf_C} (hno : pt_no cx) : ∀ (n : Nat) (d : Nat × Nat) (i pc : Nat) (ls : rf_L) (st : List Value) (h : rf_H) (r : Option Value) (hF : rf_H), h.2.1 1 = .inl pt_P → 1 < h.2.2.1 → rf_ev cx n d i pc ls st h = some (r, hF) → rf_ev cx n d i pc ls st (pt_H row sh h) = some (r, pt_H row sh hF) ∧ hF.2.1 1 = .inl pt_P ∧ 1 < hF.2.2.1 := by
  intro n
  induction n with
  | zero =>
    intro d i pc ls st h r hF hp hn he
    unfold rf_ev at he
    cases he
  | succ n ih =>
    intro d i pc ls st h r hF hp hn he
    unfold rf_ev at he ⊢
    cases hf : cx.1 i pc with
    | none => rw [hf] at he; cases he
    | some I =>
      have hno2 := hno.2 i pc I hf
      rw [hf] at he
      dsimp only at he ⊢
      cases hx : rf_ex cx d i pc I ls st h with
      | none => rw [hx] at he; cases he
      | some o =>
        rw [hx] at he
        unfold rf_ex at hx
        rcases o with q | q | v
        · have hnx : ∃ h', q.2.2.2 = h' ∧ rf_ex cx d i pc I ls st (pt_H row sh h) = some (.inl (q.1, q.2.1, q.2.2.1, pt_H row sh h')) ∧ h'.2.1 1 = .inl pt_P ∧ 1 < h'.2.2.1 := by
            unfold rf_ex
            split at hx
            · obtain ⟨x, q1, q2⟩ := Option.map_eq_some_iff.mp hx
              have q2 := Sum.inl.inj q2; subst q2
              exact ⟨h, rfl, by rw [q1]; rfl, hp, hn⟩
            · obtain ⟨x, q1, q2⟩ := Option.map_eq_some_iff.mp hx
              have q2 := Sum.inl.inj q2; subst q2
              exact ⟨h, rfl, by rw [q1]; rfl, hp, hn⟩
            · obtain ⟨x, q1, q2⟩ := Option.map_eq_some_iff.mp hx
              have q2 := Sum.inl.inj q2; subst q2
              exact ⟨h, rfl, by rw [q1]; rfl, hp, hn⟩
            · obtain ⟨x, q1, q2⟩ := Option.map_eq_some_iff.mp hx
              have q2 := Sum.inl.inj q2; subst q2
              exact ⟨h, rfl, by rw [q1]; rfl, hp, hn⟩
            · obtain ⟨x, q1, q2⟩ := Option.map_eq_some_iff.mp hx
              have q2 := Sum.inl.inj q2; subst q2
              obtain ⟨z1, z2, z3⟩ := pt_hp (row := row) (sh := sh) hno.1 hno2 hp hn q1
              exact ⟨x.2, rfl, by rw [z1]; rfl, z2, z3⟩
            · split at hx
              · rename_i hk
                obtain ⟨x, q1, q2⟩ := Option.map_eq_some_iff.mp hx
                have q2 := Sum.inl.inj q2; subst q2
                obtain ⟨z1, z2, z3⟩ := pt_bi (row := row) (sh := sh) hno.1 hp hn q1
                exact ⟨x.2, rfl, by rw [if_pos hk, z1]; rfl, z2, z3⟩
              · obtain ⟨x, q1, q2⟩ := Option.map_eq_some_iff.mp hx
                cases q2
            · obtain ⟨x, q1, q2⟩ := Option.map_eq_some_iff.mp hx
              cases q2
            · obtain ⟨x, q1, q2⟩ := Option.map_eq_some_iff.mp hx
              have q2 := Sum.inl.inj q2; subst q2
              exact ⟨h, rfl, by rw [q1]; rfl, hp, hn⟩
            · cases hx
          obtain ⟨h', e1, e2, e3, e4⟩ := hnx
          rw [e2]
          dsimp only at he ⊢
          rw [e1] at he
          exact ih _ _ _ _ _ _ _ _ e3 e4 he
        · have hnx : rf_ex cx d i pc I ls st (pt_H row sh h) = some (.inr (.inl q)) := by
            unfold rf_ex
            split at hx
            all_goals first
              | (obtain ⟨x, q1, q2⟩ := Option.map_eq_some_iff.mp hx; cases q2; done)
              | (cases hx; done)
              | skip
            split at hx
            · obtain ⟨x, q1, q2⟩ := Option.map_eq_some_iff.mp hx
              cases q2
            · rename_i hk
              obtain ⟨x, q1, q2⟩ := Option.map_eq_some_iff.mp hx
              rw [if_neg hk, pt_ca hno2 hp q1, Option.map_some, q2]
          rw [hnx]
          dsimp only at he ⊢
          split at he
          · rename_i hc
            rw [if_pos hc]
            cases hcal : rf_ev cx n (d.1 - 1, d.2 - ((cx.2.1 q.1).2.2.1 + 19)) q.1 0 (lv_args 0 q.2.1) [] h with
            | none => rw [hcal] at he; cases he
            | some rr =>
              rw [hcal] at he
              obtain ⟨z1, z2, z3⟩ := ih _ _ _ _ _ _ rr.1 rr.2 hp hn hcal
              rw [z1]
              exact ih _ _ _ _ _ _ _ _ z2 z3 he
          · cases he
        · have hnx : rf_ex cx d i pc I ls st (pt_H row sh h) = some (.inr (.inr v)) := by
            unfold rf_ex
            split at hx
            all_goals first
              | (obtain ⟨x, q1, q2⟩ := Option.map_eq_some_iff.mp hx; cases q2; done)
              | (cases hx; done)
              | skip
            · split at hx
              · obtain ⟨x, q1, q2⟩ := Option.map_eq_some_iff.mp hx
                cases q2
              · obtain ⟨x, q1, q2⟩ := Option.map_eq_some_iff.mp hx
                cases q2
            · exact hx
          rw [hnx]
          dsimp only at he ⊢
          cases he
          exact ⟨rfl, hp, hn⟩
end PT
/-! THE TWO CONSTRUCTORS, by the kernel, over a heap whose script cell is a poison -/
