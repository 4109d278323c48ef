/-! THE REFLECTION IS TRUE: instructions without the heap -/
theorem rf_ld_ok {ad : Nat → Nat} {lsA : rf_L} {lsM : Array Slot} {nL i : Nat} {v : Value} (h : rf_ld lsA i = some v) (hl : lv_has lsM nL (lsA.map (fun q => (q.1, rf_cv ad q.2)))) : lsM[i]? = some (.val (rf_cv ad v)) := by
  unfold rf_ld at h
  cases hf : lsA.find? (fun q => q.1 == i) with
  | none => rw [hf] at h; cases h
  | some q =>
    rw [hf] at h
    have hv : q.2 = v := Option.some.inj h
    have hm := List.mem_of_find?_eq_some hf
    have hi : q.1 = i := by simpa using List.find?_some hf
    rw [← hi, ← hv]
    exact hl.2.2 (q.1, rf_cv ad q.2) (List.mem_map.mpr ⟨q, hm, rfl⟩)
theorem rf_ld_ix {ad : Nat → Nat} {lsA : rf_L} {i : Nat} {v : Value} (h : rf_ld lsA i = some v) : ∃ j : Nat, (lsA.map (fun q => (q.1, rf_cv ad q.2)))[j]? = some (i, rf_cv ad v) := by
  unfold rf_ld at h
  cases hf : lsA.find? (fun q => q.1 == i) with
  | none => rw [hf] at h; cases h
  | some q =>
    rw [hf] at h
    have hv : q.2 = v := Option.some.inj h
    have hm := List.mem_of_find?_eq_some hf
    have hi : q.1 = i := by simpa using List.find?_some hf
    apply List.getElem?_of_mem
    refine List.mem_map.mpr ⟨q, hm, ?_⟩
    rw [hv, hi]
theorem rf_s1_map (ad : Nat → Nat) (ls : rf_L) (i : Nat) (v : Value) : (i, rf_cv ad v) :: (ls.map (fun q => (q.1, rf_cv ad q.2))).filter (fun q => !(q.1 == i) && !(q.1 + 1 == i && q.2.category == 2)) = (rf_s1 ls i v).map (fun q => (q.1, rf_cv ad q.2)) := by
  unfold rf_s1
  rw [List.map_cons, List.filter_map]
  congr 2
  apply List.filter_congr
  intro q _
  simp [Function.comp, rf_cat]
theorem rf_s2_map (ad : Nat → Nat) (ls : rf_L) (i : Nat) (v : Value) : (i, rf_cv ad v) :: (ls.map (fun q => (q.1, rf_cv ad q.2))).filter (fun q => !(q.1 == i) && (!(q.1 == i + 1) && !(q.1 + 1 == i && q.2.category == 2))) = (rf_s2 ls i v).map (fun q => (q.1, rf_cv ad q.2)) := by
  unfold rf_s2
  rw [List.map_cons, List.filter_map]
  congr 2
  apply List.filter_congr
  intro q _
  simp [Function.comp, rf_cat]
section RFA
variable {p : Program} {l : Launch} {e : Env} {R : Room} {s : State} {m : MethodId} {args : Array Value} {below : List Frame} {meth : Method} {c : Code} {H : Heap} {locs : List Loc} {cells slots : Nat} {Q : State → Prop}
variable {cc : ByteArray} {pc : Nat} {ls : Array Slot}
set_option maxHeartbeats 4000000 in
theorem rf_ar_ok (hx : p.tables.exec = Jvm.exec) (hb : c.code = cc) (ad : Nat → Nat) {I : Instr} {st st' : List Value} (h : rf_ar I st = some st') (hd : decode cc pc = .ok (I, 1))
    (k : W p l e R s m args below meth c H locs cells slots Q (F0 m (pc + 1) ls (st'.map (rf_cv ad)))) : W p l e R s m args below meth c H locs cells slots Q (F0 m pc ls (st.map (rf_cv ad))) := by
  unfold rf_ar at h
  split at h
  · cases h; exact lv_iadd hx hb hd k
  · cases h; exact lv_isub hx hb hd k
  · cases h; exact lv_imul hx hb hd k
  · cases h; exact lv_iand hx hb hd k
  · cases h; exact lv_ior hx hb hd k
  · cases h; exact lv_ixor hx hb hd k
  · split at h
    · cases h
    · rename_i hc; cases h; exact lv_idiv hx hb hd hc k
  · split at h
    · cases h
    · rename_i hc; cases h; exact lv_irem hx hb hd hc k
  · cases h; exact lv_ineg hx hb hd k
  · cases h; exact lv_ishl hx hb hd k
  · cases h; exact lv_ishr hx hb hd k
  · cases h; exact lv_iushr hx hb hd rfl k
  · cases h; exact lv_ladd hx hb hd k
  · cases h; exact lv_lsub hx hb hd k
  · cases h; exact lv_lmul hx hb hd k
  · cases h; exact lv_land hx hb hd k
  · cases h; exact lv_lor hx hb hd k
  · cases h; exact lv_lxor hx hb hd k
  · split at h
    · cases h
    · rename_i hc; cases h; exact lv_ldiv hx hb hd hc k
  · split at h
    · cases h
    · rename_i hc; cases h; exact lv_lrem hx hb hd hc k
  · cases h; exact lv_lneg hx hb hd k
  · cases h; exact lv_lshl hx hb hd rfl k
  · cases h; exact lv_lshr hx hb hd rfl k
  · cases h; exact lv_lushr hx hb hd rfl k
  · cases h; exact W.lcmp hx hb hd k
  · cases h; exact lv_i2l hx hb hd rfl k
  · cases h; exact lv_l2i hx hb hd rfl k
  · cases h; exact lv_i2b hx hb hd rfl k
  · cases h; exact lv_i2s hx hb hd rfl k
  · cases h; exact lv_i2c hx hb hd rfl k
  · split at h
    · rename_i hc; cases h; exact lv_dup hx hb hd (by rw [rf_cat]; exact hc) k
    · cases h
  · split at h
    · rename_i hc; cases h; exact lv_pop hx hb hd (by rw [rf_cat]; exact hc) k
    · cases h
  · split at h
    · rename_i hc; cases h; exact lv_pop2_2 hx hb hd (by rw [rf_cat]; exact hc) k
    · cases h
  · split at h
    · rename_i hc; cases h; exact lv_dup_x1 hx hb hd (by rw [rf_cat]; exact hc.1) (by rw [rf_cat]; exact hc.2) k
    · cases h
  · split at h
    · rename_i hc; cases h; exact lv_dup_x2 hx hb hd (by rw [rf_cat]; exact hc.1) (by rw [rf_cat]; exact hc.2.1) (by rw [rf_cat]; exact hc.2.2) k
    · cases h
  · split at h
    · rename_i hc; cases h; exact lv_dup2_11 hx hb hd (by rw [rf_cat]; exact hc.1) (by rw [rf_cat]; exact hc.2) k
    · split at h
      · rename_i hc; cases h; exact lv_dup2_2 hx hb hd (by rw [rf_cat]; exact hc) k
      · cases h
  · cases h; exact lv_null hx hb hd k
  · cases h
set_option maxHeartbeats 4000000 in
theorem rf_lo_ok (hx : p.tables.exec = Jvm.exec) (hb : c.code = cc) (ad : Nat → Nat) {I : Instr} {aux : List (Int × Nat)} {nL : Nat} {lsA : rf_L} {st st' : List Value} (h : rf_lo I aux lsA st = some st') (hd : decode cc pc = .ok (I, rf_len I)) (hl : lv_has ls nL (lsA.map (fun q => (q.1, rf_cv ad q.2))))
    (k : W p l e R s m args below meth c H locs cells slots Q (F0 m (pc + rf_len I) ls (st'.map (rf_cv ad)))) : W p l e R s m args below meth c H locs cells slots Q (F0 m pc ls (st.map (rf_cv ad))) := by
  have hI : ∀ {i : Nat}, rf_li lsA i st = some st' → ∃ x : Int32, ls[i]? = some (.val (.int x)) ∧ st' = .int x :: st := by
    intro i h
    unfold rf_li at h
    split at h
    · rename_i x hx; cases h; exact ⟨x, rf_ld_ok hx hl, rfl⟩
    · cases h
  have hL : ∀ {i : Nat}, rf_ll lsA i st = some st' → ∃ x : Int64, ls[i]? = some (.val (.long x)) ∧ st' = .long x :: st := by
    intro i h
    unfold rf_ll at h
    split at h
    · rename_i x hx; cases h; exact ⟨x, rf_ld_ok hx hl, rfl⟩
    · cases h
  have hA : ∀ {i : Nat}, rf_la lsA i st = some st' → (∃ x : Nat, ls[i]? = some (.val (.ref (ad x))) ∧ st' = .ref x :: st) ∨ (ls[i]? = some (.val .null) ∧ st' = .null :: st) := by
    intro i h
    unfold rf_la at h
    split at h
    · rename_i x hx; cases h; exact Or.inl ⟨x, rf_ld_ok hx hl, rfl⟩
    · rename_i hx; cases h; exact Or.inr ⟨rf_ld_ok hx hl, rfl⟩
    · cases h
  unfold rf_lo at h
  split at h
  · cases h; exact lv_iconst hx hb hd rfl k
  · cases h; exact lv_bipush hx hb hd rfl k
  · cases h; exact lv_sipush hx hb hd rfl k
  · cases h; exact lv_lconst hx hb hd rfl k
  · obtain ⟨x, h1, rfl⟩ := hI h; exact lv_iload_n hx hb hd rfl h1 k
  · obtain ⟨x, h1, rfl⟩ := hI h; exact lv_iload hx hb hd h1 k
  · obtain ⟨x, h1, rfl⟩ := hL h; exact lv_lload_n hx hb hd rfl h1 k
  · obtain ⟨x, h1, rfl⟩ := hL h; exact lv_lload hx hb hd h1 k
  · rcases hA h with ⟨x, h1, rfl⟩ | ⟨h1, rfl⟩
    · exact lv_aload_n hx hb hd rfl h1 k
    · exact lv_aload_nN hx hb hd rfl h1 k
  · rcases hA h with ⟨x, h1, rfl⟩ | ⟨h1, rfl⟩
    · exact lv_aload hx hb hd h1 k
    · exact lv_aloadN hx hb hd h1 k
  · cases h
set_option maxHeartbeats 4000000 in
theorem rf_so_ok (hx : p.tables.exec = Jvm.exec) (hb : c.code = cc) (ad : Nat → Nat) {I : Instr} {nL : Nat} {lsA : rf_L} {st : List Value} {q' : rf_L × List Value} (h : rf_so I nL lsA st = some q') (hd : decode cc pc = .ok (I, rf_len I)) (hl : lv_has ls nL (lsA.map (fun q => (q.1, rf_cv ad q.2))))
    (k : ∀ ls' : Array Slot, lv_has ls' nL (q'.1.map (fun q => (q.1, rf_cv ad q.2))) → W p l e R s m args below meth c H locs cells slots Q (F0 m (pc + rf_len I) ls' (q'.2.map (rf_cv ad)))) : W p l e R s m args below meth c H locs cells slots Q (F0 m pc ls (st.map (rf_cv ad))) := by
  unfold rf_so at h
  split at h
  · split at h
    · rename_i k1 x r hc; cases h; exact lv_istore_n hx hb hd rfl hl hc (rf_s1_map ad lsA (k1 : Nat) (.int x)) k
    · cases h
  · split at h
    · rename_i k1 x r hc; cases h; exact lv_istore hx hb hd hl hc (rf_s1_map ad lsA k1 (.int x)) k
    · cases h
  · split at h
    · rename_i k1 x r hc; cases h; exact lv_lstore_n hx hb hd rfl hl hc (rf_s2_map ad lsA (k1 : Nat) (.long x)) k
    · cases h
  · split at h
    · rename_i k1 x r hc; cases h; exact lv_lstore hx hb hd hl hc (rf_s2_map ad lsA k1 (.long x)) k
    · cases h
  · split at h
    · rename_i k1 x r hc; cases h; exact lv_astore_n hx hb hd rfl hl hc (rf_s1_map ad lsA (k1 : Nat) (.ref x)) k
    · cases h
  · split at h
    · rename_i k1 x r hc; cases h; exact lv_astore hx hb hd hl hc (rf_s1_map ad lsA k1 (.ref x)) k
    · cases h
  · split at h
    · rename_i k1 r hc; cases h; exact lv_astore_nN hx hb hd rfl hl hc (rf_s1_map ad lsA (k1 : Nat) .null) k
    · cases h
  · split at h
    · rename_i k1 r hc; cases h; exact lv_astoreN hx hb hd hl hc (rf_s1_map ad lsA k1 .null) k
    · cases h
  · split at h
    · rename_i x hx2
      split at h
      · rename_i hc
        cases h
        obtain ⟨j, hj⟩ := rf_ld_ix (ad := ad) hx2
        exact lv_iinc hx hb hd hl hj rfl hc (rf_s1_map ad lsA _ (.int _)) k
      · cases h
    · cases h
  · cases h
/-- what a table of code says of its branches -/
def rf_wb (I : Instr) (aux : List (Int × Nat)) (pc : Nat) : Bool := match I with
  | .goto o => decide ((pc : Int) + o = (rf_tg aux : Int))
  | .ifCond _ o => decide ((pc : Int) + o = (rf_tg aux : Int))
  | .if_icmp _ o => decide ((pc : Int) + o = (rf_tg aux : Int))
  | .if_acmp _ o => decide ((pc : Int) + o = (rf_tg aux : Int))
  | .ifnull o => decide ((pc : Int) + o = (rf_tg aux : Int))
  | .ifnonnull o => decide ((pc : Int) + o = (rf_tg aux : Int))
  | .tableswitch d _ _ offs => decide ((rf_tg aux : Int) = (pc : Int) + d) && decide (aux.tail.map (fun q => (q.2 : Int)) = offs.toList.map (fun o => (pc : Int) + o))
  | .lookupswitch d ps => decide ((rf_tg aux : Int) = (pc : Int) + d) && decide (aux.tail.map (fun q => (q.1, (q.2 : Int))) = ps.toList.map (fun o => (o.1, (pc : Int) + o.2))) && (ps.toList.zip (ps.toList.drop 1)).all (fun (a, next) => a.1 < next.1)
  | _ => true
theorem rf_sw_ok (pc : Int) (d : Int) (dt : Nat) (hd : (dt : Int) = pc + d) (x : Int) : ∀ (aux : List (Int × Nat)) (ps : List (Int × Int)), aux.map (fun q => (q.1, (q.2 : Int))) = ps.map (fun o => (o.1, pc + o.2)) → pc + Op.lookupswitch.offset ps d x = (rf_sw aux dt x : Int) := by
  intro aux
  induction aux with
  | nil =>
    intro ps h
    cases ps with
    | nil => exact hd.symm
    | cons a r => simp at h
  | cons q r ih =>
    intro ps h
    cases ps with
    | nil => simp at h
    | cons a t =>
      obtain ⟨a1, a2⟩ := a
      simp only [List.map_cons, List.cons.injEq, Prod.mk.injEq] at h
      obtain ⟨⟨h1, h2⟩, h3⟩ := h
      rw [Op.lookupswitch.offset_cons]
      unfold rf_sw
      by_cases hk : a1 = x
      · rw [if_pos hk, if_pos (h1.trans hk)]
        exact h2.symm
      · rw [if_neg hk, if_neg (fun z => hk (h1.symm.trans z))]
        exact ih t h3
theorem rf_cc_ok {x y : Int32} {b : Bool} : (rf_cc x y .eq = true ↔ x = y) ∧ (rf_cc x y .ne = true ↔ ¬ x = y) ∧ (rf_cc x y .lt = true ↔ x < y) ∧ (rf_cc x y .ge = true ↔ y ≤ x) ∧ (rf_cc x y .gt = true ↔ y < x) ∧ (rf_cc x y .le = true ↔ x ≤ y) := by
  simp [rf_cc]
set_option maxHeartbeats 4000000 in
theorem rf_br_ok (hx : p.tables.exec = Jvm.exec) (hb : c.code = cc) (ad : Nat → Nat) {a0 : Nat} (hin : ∀ x y : Nat, a0 ≤ x → a0 ≤ y → ad x = ad y → x = y) {I : Instr} {aux : List (Int × Nat)} {st : List Value} {q' : Nat × List Value} (h : rf_br a0 I aux pc st = some q') {len : Nat} (hd : decode cc pc = .ok (I, len)) (hlen : len = rf_len I ∨ (∃ a b c d, I = .tableswitch a b c d) ∨ ∃ a b, I = .lookupswitch a b) (hw : rf_wb I aux pc = true)
    (k : W p l e R s m args below meth c H locs cells slots Q (F0 m q'.1 ls (q'.2.map (rf_cv ad)))) : W p l e R s m args below meth c H locs cells slots Q (F0 m pc ls (st.map (rf_cv ad))) := by
  have hl3 : rf_len I = 3 → (∀ a b c d, I ≠ .tableswitch a b c d) → (∀ a b, I ≠ .lookupswitch a b) → len = 3 := by
    intro h1 h2 h3
    rcases hlen with h4 | ⟨a1, b1, c1, d1, h4⟩ | ⟨a1, b1, h4⟩
    · rw [h4, h1]
    · exact absurd h4 (h2 _ _ _ _)
    · exact absurd h4 (h3 _ _)
  unfold rf_br at h
  split at h
  · have e3 := hl3 rfl (fun _ _ _ _ => by simp) (fun _ _ => by simp)
    subst e3
    cases h; exact lv_goto hx hb hd (of_decide_eq_true hw) k
  · rename_i cnd o x r
    have e3 := hl3 rfl (fun _ _ _ _ => by simp) (fun _ _ => by simp)
    subst e3
    cases h
    have ht := of_decide_eq_true hw
    cases cnd
    · refine lv_if_eq hx hb hd ht (fun hc => ?_) (fun hc => ?_)
      · rw [if_pos (by simp [rf_cc, hc])] at k; exact k
      · rw [if_neg (by simp [rf_cc, hc])] at k; exact k
    · refine lv_if_ne hx hb hd ht (fun hc => ?_) (fun hc => ?_)
      · rw [if_pos (by simp [rf_cc, hc])] at k; exact k
      · rw [if_neg (by simp [rf_cc, hc])] at k; exact k
    · refine lv_if_lt hx hb hd ht (fun hc => ?_) (fun hc => ?_)
      · rw [if_pos (by simp only [rf_cc, decide_eq_true_eq]; exact hc)] at k; exact k
      · rw [if_neg (by simp only [rf_cc, decide_eq_true_eq]; exact hc)] at k; exact k
    · refine lv_if_ge hx hb hd ht (fun hc => ?_) (fun hc => ?_)
      · rw [if_pos (by simp only [rf_cc, decide_eq_true_eq]; exact hc)] at k; exact k
      · rw [if_neg (by simp only [rf_cc, decide_eq_true_eq]; exact hc)] at k; exact k
    · refine lv_if_gt hx hb hd ht (fun hc => ?_) (fun hc => ?_)
      · rw [if_pos (by simp only [rf_cc, decide_eq_true_eq]; exact hc)] at k; exact k
      · rw [if_neg (by simp only [rf_cc, decide_eq_true_eq]; exact hc)] at k; exact k
    · refine lv_if_le hx hb hd ht (fun hc => ?_) (fun hc => ?_)
      · rw [if_pos (by simp only [rf_cc, decide_eq_true_eq]; exact hc)] at k; exact k
      · rw [if_neg (by simp only [rf_cc, decide_eq_true_eq]; exact hc)] at k; exact k
  · rename_i cnd o y x r
    have e3 := hl3 rfl (fun _ _ _ _ => by simp) (fun _ _ => by simp)
    subst e3
    cases h
    have ht := of_decide_eq_true hw
    cases cnd
    · refine lv_icmp_eq hx hb hd ht (fun hc => ?_) (fun hc => ?_)
      · rw [if_pos (by simp [rf_cc, hc])] at k; exact k
      · rw [if_neg (by simp [rf_cc, hc])] at k; exact k
    · refine lv_icmp_ne hx hb hd ht (fun hc => ?_) (fun hc => ?_)
      · rw [if_pos (by simp [rf_cc, hc])] at k; exact k
      · rw [if_neg (by simp [rf_cc, hc])] at k; exact k
    · refine lv_icmp_lt hx hb hd ht (fun hc => ?_) (fun hc => ?_)
      · rw [if_pos (by simp only [rf_cc, decide_eq_true_eq]; exact hc)] at k; exact k
      · rw [if_neg (by simp only [rf_cc, decide_eq_true_eq]; exact hc)] at k; exact k
    · refine lv_icmp_ge hx hb hd ht (fun hc => ?_) (fun hc => ?_)
      · rw [if_pos (by simp only [rf_cc, decide_eq_true_eq]; exact hc)] at k; exact k
      · rw [if_neg (by simp only [rf_cc, decide_eq_true_eq]; exact hc)] at k; exact k
    · refine lv_icmp_gt hx hb hd ht (fun hc => ?_) (fun hc => ?_)
      · rw [if_pos (by simp only [rf_cc, decide_eq_true_eq]; exact hc)] at k; exact k
      · rw [if_neg (by simp only [rf_cc, decide_eq_true_eq]; exact hc)] at k; exact k
    · refine lv_icmp_le hx hb hd ht (fun hc => ?_) (fun hc => ?_)
      · rw [if_pos (by simp only [rf_cc, decide_eq_true_eq]; exact hc)] at k; exact k
      · rw [if_neg (by simp only [rf_cc, decide_eq_true_eq]; exact hc)] at k; exact k
  · have e3 := hl3 rfl (fun _ _ _ _ => by simp) (fun _ _ => by simp)
    subst e3
    cases h; exact lv_ifnull hx hb hd k
  · have e3 := hl3 rfl (fun _ _ _ _ => by simp) (fun _ _ => by simp)
    subst e3
    cases h; exact lv_ifnullN hx hb hd (of_decide_eq_true hw) k
  · have e3 := hl3 rfl (fun _ _ _ _ => by simp) (fun _ _ => by simp)
    subst e3
    cases h; exact lv_ifnonnull hx hb hd (of_decide_eq_true hw) k
  · have e3 := hl3 rfl (fun _ _ _ _ => by simp) (fun _ _ => by simp)
    subst e3
    cases h; exact lv_ifnonnullN hx hb hd k
  · rename_i o y x r
    have e3 := hl3 rfl (fun _ _ _ _ => by simp) (fun _ _ => by simp)
    subst e3
    split at h
    · cases h
    rename_i hge
    have g1 : a0 ≤ x := Nat.not_lt.mp fun z => hge (Or.inl z)
    have g2 : a0 ≤ y := Nat.not_lt.mp fun z => hge (Or.inr z)
    cases h
    refine lv_acmp_eq (rx := some (ad x)) (ry := some (ad y)) hx hb hd (of_decide_eq_true hw) (fun hc => ?_) (fun hc => ?_)
    · have hxy := hin x y g1 g2 (Option.some.inj hc)
      rw [if_pos hxy] at k; exact k
    · have hxy : ¬ x = y := fun z => hc (by rw [z])
      rw [if_neg hxy] at k; exact k
  · rename_i o y x r
    have e3 := hl3 rfl (fun _ _ _ _ => by simp) (fun _ _ => by simp)
    subst e3
    split at h
    · cases h
    rename_i hge
    have g1 : a0 ≤ x := Nat.not_lt.mp fun z => hge (Or.inl z)
    have g2 : a0 ≤ y := Nat.not_lt.mp fun z => hge (Or.inr z)
    cases h
    refine lv_acmp_ne (rx := some (ad x)) (ry := some (ad y)) hx hb hd (of_decide_eq_true hw) (fun hc => ?_) (fun hc => ?_)
    · have hxy : ¬ x = y := fun z => hc (by rw [z])
      rw [if_neg hxy] at k; exact k
    · have hxy := hin x y g1 g2 (Option.some.inj hc)
      rw [if_pos hxy] at k; exact k
  · have e3 := hl3 rfl (fun _ _ _ _ => by simp) (fun _ _ => by simp)
    subst e3
    cases h
    exact lv_acmp_eq (rx := none) (ry := none) hx hb hd (of_decide_eq_true hw) (fun hc => k) (fun hc => absurd rfl hc)
  · have e3 := hl3 rfl (fun _ _ _ _ => by simp) (fun _ _ => by simp)
    subst e3
    cases h
    exact lv_acmp_eq (rx := some (ad _)) (ry := none) hx hb hd (of_decide_eq_true hw) (fun hc => absurd hc (by simp)) (fun hc => k)
  · have e3 := hl3 rfl (fun _ _ _ _ => by simp) (fun _ _ => by simp)
    subst e3
    cases h
    exact lv_acmp_eq (rx := none) (ry := some (ad _)) hx hb hd (of_decide_eq_true hw) (fun hc => absurd hc (by simp)) (fun hc => k)
  · have e3 := hl3 rfl (fun _ _ _ _ => by simp) (fun _ _ => by simp)
    subst e3
    cases h
    exact lv_acmp_ne (rx := none) (ry := none) hx hb hd (of_decide_eq_true hw) (fun hc => absurd rfl hc) (fun hc => k)
  · have e3 := hl3 rfl (fun _ _ _ _ => by simp) (fun _ _ => by simp)
    subst e3
    cases h
    exact lv_acmp_ne (rx := some (ad _)) (ry := none) hx hb hd (of_decide_eq_true hw) (fun hc => k) (fun hc => absurd hc (by simp))
  · have e3 := hl3 rfl (fun _ _ _ _ => by simp) (fun _ _ => by simp)
    subst e3
    cases h
    exact lv_acmp_ne (rx := none) (ry := some (ad _)) hx hb hd (of_decide_eq_true hw) (fun hc => k) (fun hc => absurd hc (by simp))
  · rename_i d lo hi offs x r
    unfold rf_wb at hw
    simp only [Bool.and_eq_true, decide_eq_true_eq] at hw
    split at h
    · rename_i ho
      cases h
      exact lv_tableOut hx hb hd ho hw.1.symm k
    · rename_i ho
      have ho1 : ¬ x.toInt < lo := fun z => ho (Or.inl z)
      have ho2 : ¬ hi < x.toInt := fun z => ho (Or.inr z)
      split at h
      · rename_i q hq
        cases h
        cases aux with
        | nil => simp at hq
        | cons a0 t0 =>
          simp only [List.getElem?_cons_succ] at hq
          have h2 : (t0.map (fun q => (q.2 : Int)))[(x.toInt - lo).toNat]? = some (q.2 : Int) := by rw [List.getElem?_map, hq]; rfl
          have h3 := hw.2
          simp only [List.tail_cons] at h3
          rw [h3, List.getElem?_map] at h2
          cases h4 : offs.toList[(x.toInt - lo).toNat]? with
          | none => rw [h4] at h2; cases h2
          | some off =>
            rw [h4] at h2
            exact lv_tableIn hx hb hd ho1 ho2 (by rw [← Array.getElem?_toList]; exact h4) (Option.some.inj h2) k
      · cases h
  · rename_i d ps x r
    unfold rf_wb at hw
    simp only [Bool.and_eq_true, decide_eq_true_eq] at hw
    cases h
    exact lv_lookup hx hb hd hw.2 rfl (rf_sw_ok _ _ _ hw.1.1 _ _ _ hw.1.2) k
  · cases h
end RFA
