/-! THE REFLECTION IS TRUE: by induction on the fuel -/
def rf_Pc (cx : rf_C) (ocl : List vw_C) (OH : Heap) (sp : List Cond) (str : List (String × Nat × String × Nat)) (stt : List (String × String × String × Value)) (D : va_G) (ad : Nat → Nat) (base : Nat) (as : List Value) (h : rf_H) : Array Value → State → Prop := fun v U => v = (as.map (rf_cv ad)).toArray ∧ rf_R ocl OH D cx ad base U U.heap h ∧ va_K D cx.2.2.2.1 [] U ∧ rf_E sp str stt OH ad base U
def rf_Qc (cx : rf_C) (ocl : List vw_C) (OH : Heap) (D : va_G) (ad : Nat → Nat) (base : Nat) (r : Option Value) (h : rf_H) : Array Value → State → Outcome → State → Prop := fun _ _ oc t => oc = .returned (r.map (rf_cv ad)) ∧ rf_R ocl OH D cx ad base t t.heap h
/-- what is proved of all runs of at most n steps -/
def rf_P (l : Launch) (cx : rf_C) (ocl : List vw_C) (OH : Heap) (tb sp : List Cond) (str : List (String × Nat × String × Nat)) (stt : List (String × String × String × Value)) (D : va_G) (ad : Nat → Nat) (base : Nat) (n : Nat) : Prop :=
  ∀ (d : Nat × Nat) (i pc : Nat) (lsA : rf_L) (st : List Value) (h : rf_H) (r : Option Value) (hF : rf_H), rf_ev cx n d i pc lsA st h = some (r, hF) →
    (h.2.2.1 ≤ hF.2.2.1 ∧ h.2.2.2 ≤ hF.2.2.2) ∧
    ∀ (p : Program) (e : Env) (R : Room) (s : State) (m : MethodId) (args : Array Value) (below : List Frame) (meth : Method) (c : Code) (H : Heap) (locs : List Loc) (cells slots : Nat) (Q : State → Prop) (lsM : Array Slot),
      p.tables.exec = Jvm.exec → c.code = (cx.2.1 i).2.1 → c.maxLocals = (cx.2.1 i).2.2.1 → s.vm.findClass (cx.2.1 i).1.cls = some m.cls → ((cx.2.1 i).1.name = "<init>" → meth.name = "<init>") → (∀ w ∈ tb, w.before args s = true) → rf_E sp str stt OH ad base s → va_K D cx.2.2.2.1 [] s →
      rf_R ocl OH D cx ad base s H h → (∀ q ∈ locs, base ≤ q.base) → lv_has lsM (cx.2.1 i).2.2.1 (lsA.map (fun q => (q.1, rf_cv ad q.2))) →
      d.1 ≤ R.frames → d.2 ≤ R.locals → cells + (hF.2.2.1 - h.2.2.1) ≤ R.cells → slots + (hF.2.2.2 - h.2.2.2) ≤ R.slots →
      (∀ (pcR : Nat) (IR : Instr) (HR : Heap) (locsR : List Loc) (lsR : Array Slot) (stR : List Value), decode (cx.2.1 i).2.1 pcR = .ok (IR, 1) → rf_rt IR (cx.2.1 i).2.2.2 stR = some r → rf_R ocl OH D cx ad base s HR hF → (∀ q ∈ locsR, base ≤ q.base) → W p l e R s m args below meth c HR locsR (cells + (hF.2.2.1 - h.2.2.1)) (slots + (hF.2.2.2 - h.2.2.2)) Q (F0 m pcR lsR (stR.map (rf_cv ad)))) →
      W p l e R s m args below meth c H locs cells slots Q (F0 m pc lsM (st.map (rf_cv ad)))
theorem rf_l0 {I : Instr} (h : rf_kd I = 0) : rf_len I = 1 := by cases I <;> first | rfl | (simp [rf_kd] at h)
theorem rf_l6 {I : Instr} (h : rf_kd I = 6) : rf_len I = 1 := by cases I <;> first | rfl | (simp [rf_kd] at h)
theorem rf_lw {I : Instr} (h : rf_kd I ≠ 3) : rf_iw I = false := by cases I <;> first | rfl | (exact absurd rfl h)
theorem rf_l3 {I : Instr} (h : rf_iw I = true) : (∃ a b c d, I = .tableswitch a b c d) ∨ ∃ a b, I = .lookupswitch a b := by
  cases I <;> first | exact Or.inl ⟨_, _, _, _, rfl⟩ | exact Or.inr ⟨_, _, rfl⟩ | (simp [rf_iw] at h)
section RFC
variable {p : Program} {l : Launch} {e : Env} {R : Room} {s : State} {m : MethodId} {args : Array Value} {below : List Frame} {meth : Method} {c : Code} {H : Heap} {locs : List Loc} {cells slots : Nat} {Q : State → Prop}
variable {pc : Nat} {lsM : Array Slot} {D : va_G} {cx : rf_C} {ad : Nat → Nat} {base : Nat} {ocl : List vw_C} {OH : Heap} {tb sp : List Cond} {str : List (String × Nat × String × Nat)} {stt : List (String × String × String × Value)} {own : String} {h : rf_H}
/-- behind a call -/
theorem rf_cont {mc ms : Nat} {stM restM : List Value} {a : Array Value} {r : Option Value} {h' : rf_H} (hrun : va_Run p l e R s m args below meth c H locs cells slots mc ms (F0 m pc lsM stM) restM (rf_Qc cx ocl OH D ad base r h' a) (fun q => base ≤ q)) (hloc : ∀ q ∈ locs, base ≤ q.base)
    (kk : ∀ (H' : Heap) (locs' : List Loc), rf_R ocl OH D cx ad base s H' h' → (∀ q ∈ locs', base ≤ q.base) → W p l e R s m args below meth c H' locs' (cells + mc) (slots + ms) Q (F0 m (pc + 3) lsM ((r.map (rf_cv ad)).toList ++ restM))) : W p l e R s m args below meth c H locs cells slots Q (F0 m pc lsM stM) := by
  intro T hT X
  obtain ⟨v, st₀, t, T', L, h0, X', hL, e1, e2, ⟨hv, hR'⟩, st⟩ := hrun T hT X
  have hv2 : v = r.map (rf_cv ad) := by injection hv
  subst hv2
  obtain ⟨t2, a1, b1⟩ := kk T'.heap (locs ++ L) (by
      rw [e1]
      exact hR'.moved (by rw [← e2]; exact X'.warmed.alike.symm)) (fun q hq => by
      rcases List.mem_append.mp hq with z | z
      · exact hloc q z
      · exact hL q z) T' rfl X'
  exact ⟨t2, st t2 a1, b1⟩
theorem rf_blind (hspk : ∀ w ∈ sp, rf_spk w = true) (as : List Value) : FrameBlind (rf_Pc cx ocl OH sp str stt D ad base as h) := by
  intro a U g mk hp
  obtain ⟨h1, h2, h3, h4⟩ := hp
  exact ⟨h1, rf_R.moved (u := U) (U := U.calling g mk a) (Vm.Alike.refl U.vm) h2, va_K.moved (u := U) (U := U.calling g mk a) (Vm.Alike.refl U.vm) h3, rf_E.same (s := U) (U := U.calling g mk a) hspk rfl h4⟩
theorem rf_pre (hspk : ∀ w ∈ sp, rf_spk w = true) (as : List Value) (hR : rf_R ocl OH D cx ad base s H h) (hK : va_K D cx.2.2.2.1 [] s) (hE : rf_E sp str stt OH ad base s) : ∀ U : State, U.heap = H → s.WarmedH U.vm → rf_Pc cx ocl OH sp str stt D ad base as h (as.map (rf_cv ad)).toArray U := by
  intro U hU hW
  exact ⟨rfl, by rw [hU]; exact hR.moved hW.alike, va_K.moved hW.alike hK, hE.warm hspk hW⟩
theorem rf_recv (hK : va_K D cx.2.2.2.1 [] s) (hR : rf_R ocl OH D cx ad base s H h) {a ci : Nat} (hob : rf_ob h a = some ci) {C : String} (hC : rf_nm cx ocl (rf_ky cx.2.2.2.2 a ci) = some C) : ∃ cell : Cell, H[ad a]? = some cell ∧ cell.vm.isStatics = false ∧ s.vm.findClass C = some cell.cls := by
  obtain ⟨hap, ha, hsh⟩ := rf_ob_ok hob
  unfold rf_nm rf_ky at hC
  by_cases ha1 : a < cx.2.2.2.2
  · rw [if_pos ha1, if_neg (by omega)] at hC
    rw [show (-(-(ci : Int) - 1) - 1).toNat = ci by omega] at hC
    have hq := hR.2.1 a hap ha1
    rw [hsh] at hq
    obtain ⟨r, hr, ⟨cell, q1, q2, q3⟩, -⟩ := hq
    rw [hr] at hC
    have : r.1 = C := Option.some.inj hC
    subst this
    exact ⟨cell, q1, q2, q3⟩
  · rw [if_neg ha1, if_pos (Int.natCast_nonneg ci)] at hC
    have hq := hR.1 a (Nat.not_lt.mp ha1) ha
    rw [hsh] at hq
    obtain ⟨r, hr, cell, q1, q2, q3, -⟩ := hq
    simp only [Int.toNat_natCast] at hC
    rw [hr] at hC
    have : r.1 = C := Option.some.inj hC
    subst this
    exact ⟨cell, q1, by rw [q3]; rfl, by rw [q2]; exact (hK.1 ci r hr).2.1⟩
set_option maxHeartbeats 4000000 in
/-- the end of a method -/
theorem rf_rt_ok {cc : ByteArray} (ad : Nat → Nat) {Qc : Array Value → State → Outcome → State → Prop} {free : Addr → Prop} {ret : Option FieldType} {I : Instr} {st : List Value} {r : Option Value} (hx : p.tables.exec = Jvm.exec) (hb : c.code = cc) (hr : meth.sig.returnType = ret) (hlocks : meth.locks = false) (hrt : rf_rt I ret st = some r) (hd : decode cc pc = .ok (I, 1))
    (hq : ∀ t : State, t.heap = H → s.WarmedH t.vm → Qc args s (.returned (r.map (rf_cv ad))) t) (hf : ∀ q ∈ locs, free q.base) : W p l e R s m args below meth c H locs cells slots (MQ below Qc args s cells slots free) (F0 m pc lsM (st.map (rf_cv ad))) := by
  unfold rf_rt at hrt
  split at hrt
  · cases hrt; exact W.iret (hlocks := hlocks) hx hb hr hq hf hd
  · split at hrt
    · rename_i hn; cases hrt; exact W.zret (hlocks := hlocks) hx hb hr hn hq hf hd
    · cases hrt
  · split at hrt
    · rename_i hn; cases hrt; exact W.zret (hlocks := hlocks) hx hb hr hn hq hf hd
    · cases hrt
  · split at hrt
    · rename_i hn; cases hrt; exact W.zret (hlocks := hlocks) hx hb hr hn hq hf hd
    · cases hrt
  · split at hrt
    · rename_i hn; cases hrt; exact W.zret (hlocks := hlocks) hx hb hr hn hq hf hd
    · cases hrt
  · cases hrt; exact W.lret (hlocks := hlocks) hx hb hr hq hf hd
  · cases hrt; exact W.aret (hlocks := hlocks) hx hb hr (Or.inl ⟨_, rfl⟩) (Or.inr ⟨_, rfl⟩) hq hf hd
  · cases hrt; exact W.aret (hlocks := hlocks) hx hb hr (Or.inl ⟨_, rfl⟩) (Or.inl rfl) hq hf hd
  · cases hrt; exact W.aret (hlocks := hlocks) hx hb hr (Or.inr ⟨_, rfl⟩) (Or.inr ⟨_, rfl⟩) hq hf hd
  · cases hrt; exact W.aret (hlocks := hlocks) hx hb hr (Or.inr ⟨_, rfl⟩) (Or.inl rfl) hq hf hd
  · cases hrt; exact W.vret (hlocks := hlocks) hx hb hr hq hf hd
  · cases hrt
end RFC
set_option maxHeartbeats 4000000 in
/-- a contract of a method out of the runs of the evaluator -/
theorem rf_met {l : Launch} {cx : rf_C} {ocl : List vw_C} {OH : Heap} {tb sp : List Cond} {str : List (String × Nat × String × Nat)} {stt : List (String × String × String × Value)} {D : va_G} {ad : Nat → Nat} {base n : Nat} (hP : rf_P l cx ocl OH tb sp str stt D ad base n)
    {d : Nat × Nat} {j : Nat} {as : List Value} {h h' : rf_H} {r : Option Value} (he : rf_ev cx n d j 0 (lv_args 0 as) [] h = some (r, h')) (hsl : (lg_sl as).length ≤ (cx.2.1 j).2.2.1) (hpl : plainName (cx.2.1 j).1.cls = true) :
    Met l (cx.2.1 j).1 (rf_ws cx tb j) ({ frames := d.1, cells := h'.2.2.1 - h.2.2.1, slots := h'.2.2.2 - h.2.2.2, locals := d.2 }) (rf_Pc cx ocl OH sp str stt D ad base as h) (rf_Qc cx ocl OH D ad base r h') (h'.2.2.1 - h.2.2.1) (h'.2.2.2 - h.2.2.2) (fun q => base ≤ q) := by
  refine Met.ofW (cc := (cx.2.1 j).2.1) (maxL := (cx.2.1 j).2.2.1) (ret := (cx.2.1 j).2.2.2) hpl rfl ?_
  intro p e s m args below meth c s₁ B hml hv
  obtain ⟨rfl, hR, hK, hE⟩ := hv
  have hts := atoms_spec (ws := rf_ws cx tb j) B.pre
  have hl := lv_entry (as.map (rf_cv ad)) (n := (cx.2.1 j).2.2.1) (by rw [rf_sl_map]; exact hsl)
  rw [rf_args_map] at hl
  rw [lg_entry_eq]
  obtain ⟨-, hW⟩ := hP d j 0 (lv_args 0 as) [] h r h' he
  have hlocks := B.notSynchronized
  refine hW p e _ s m _ below meth c s.heap [] 0 0 _ _ B.exec B.bytes hml (findClass_of_methodNamed B.named) (fun z => (name_of_methodNamed B.named B.method).1.trans z) (fun w hw => hts w (List.mem_cons_of_mem _ hw)) hE hK hR (fun q hq => by cases hq) hl (Nat.le_refl _) (Nat.le_refl _) (by rw [Nat.zero_add]; exact Nat.le_refl _) (by rw [Nat.zero_add]; exact Nat.le_refl _) ?_
  intro pcR IR HR locsR lsR stR hd hrt hRR hloc
  rw [Nat.zero_add, Nat.zero_add]
  have hq : ∀ t : State, t.heap = HR → s.WarmedH t.vm → rf_Qc cx ocl OH D ad base r h' (as.map (rf_cv ad)).toArray s (.returned (r.map (rf_cv ad))) t := fun t ht hW => ⟨rfl, by rw [ht]; exact hRR.moved hW.alike⟩
  exact rf_rt_ok ad B.exec B.bytes B.returns hlocks hrt hd hq hloc
