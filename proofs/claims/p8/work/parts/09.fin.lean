/-- the calls of a table of code, run by the machine -/
theorem rf_ca_ok {p : Program} {l : Launch} {e : Env} {R : Room} {s : State} {m : MethodId} {args : Array Value} {below : List Frame} {meth : Method} {c : Code} {H : Heap} {locs : List Loc} {cells slots : Nat} {Q : State → Prop} {pc : Nat} {lsM : Array Slot} {D : va_G} {cx : rf_C} {ad : Nat → Nat} {base : Nat} {ocl : List vw_C} {OH : Heap} {tb sp : List Cond} {str : List (String × Nat × String × Nat)} {stt : List (String × String × String × Value)} {own : String} {h h' : rf_H} {cc : ByteArray} {nL : Nat}
    (hx : p.tables.exec = Jvm.exec) (hb : c.code = cc) (hml : c.maxLocals = nL) (hlz : lsM.size = nL) (hown : s.vm.findClass own = some m.cls) (hts : ∀ w ∈ tb, w.before args s = true) (hgood : ∀ w ∈ tb, (w.onTables && w.keeps) = true ∨ ∃ ty, w = .arrayClass ty) (hspk : ∀ w ∈ sp, rf_spk w = true) (hE : rf_E sp str stt OH ad base s) (hK : va_K D cx.2.2.2.1 [] s) (hR : rf_R ocl OH D cx ad base s H h) (hloc : ∀ q ∈ locs, base ≤ q.base)
    {I : Instr} {aux : List (Int × Nat)} {st : List Value} {q : Nat × List Value × List Value} (hca : rf_ca cx I aux st h = some q) (hwc : rf_wc cx ocl tb sp own I aux) (hd : decode cc pc = .ok (I, 3)) {rm : Room} {r : Option Value} {mc ms : Nat} (hrc : rm.cells = mc) (hrs : rm.slots = ms)
    (hM : plainName (cx.2.1 q.1).1.cls = true → Met l (cx.2.1 q.1).1 (rf_ws cx tb q.1) rm (rf_Pc cx ocl OH sp str stt D ad base q.2.1 h) (rf_Qc cx ocl OH D ad base r h') mc ms (fun q => base ≤ q)) (hfr : rm.frames + 1 ≤ R.frames) (hlo : 8 + ((cx.2.1 q.1).2.2.1 + 11) + rm.locals ≤ R.locals) (hf : cells + mc ≤ R.cells ∧ slots + ms ≤ R.slots)
    (kk : ∀ (H' : Heap) (locs' : List Loc), rf_R ocl OH D cx ad base s H' h' → (∀ q ∈ locs', base ≤ q.base) → W p l e R s m args below meth c H' locs' (cells + mc) (slots + ms) Q (F0 m (pc + 3) lsM ((r.toList ++ q.2.2).map (rf_cv ad)))) : W p l e R s m args below meth c H locs cells slots Q (F0 m pc lsM (st.map (rf_cv ad))) := by
  have kk2 : ∀ (H' : Heap) (locs' : List Loc), rf_R ocl OH D cx ad base s H' h' → (∀ q ∈ locs', base ≤ q.base) → W p l e R s m args below meth c H' locs' (cells + mc) (slots + ms) Q (F0 m (pc + 3) lsM ((r.map (rf_cv ad)).toList ++ q.2.2.map (rf_cv ad))) := by
    intro H' locs' h1 h2
    have h3 := kk H' locs' h1 h2
    have h4 : (r.toList ++ q.2.2).map (rf_cv ad) = (r.map (rf_cv ad)).toList ++ q.2.2.map (rf_cv ad) := by cases r <;> simp
    rw [h4] at h3
    exact h3
  have hfix : CallFix p m c cc nL s args tb own := ⟨hx, hb, hml, hown, hts⟩
  have hgi : ∀ j : Nat, Cond.code (cx.2.1 j).1 (cx.2.1 j).2.1 (cx.2.1 j).2.2.1 (cx.2.1 j).2.2.2 ∈ tb → GoodIn tb (rf_ws cx tb j) := by
    intro j hj w hw
    rcases List.mem_cons.mp hw with z | z
    · subst z; exact ⟨hj, hgood _ hj⟩
    · exact ⟨z, hgood _ z⟩
  unfold rf_ca at hca
  split at hca
  · rename_i q0 tg
    split at hca
    · -- invokevirtual
      rename_i idx a rr heq
      split at hca
      · rename_i ci hob
        split at hca
        · rename_i j hlk
          split at hca
          · rename_i hc
            cases hca
            obtain ⟨⟨m1, m2, m3, m4, m5⟩, hin, C, hC, hlink⟩ := hwc _ (rf_lk_ok hlk)
            have hlen : ((st.take q0.2).reverse.map (rf_cv ad)).length = q0.2 := by simp [Nat.min_eq_left hc.1]
            have hst : st.map (rf_cv ad) = ((st.take q0.2).reverse.map (rf_cv ad)).reverse ++ .ref (ad a) :: rr.map (rf_cv ad) := by
              have h5 := List.take_append_drop q0.2 st
              rw [heq] at h5
              rw [← List.map_reverse, List.reverse_reverse]
              conv => lhs; rw [← h5]
              simp [rf_cv]
            have hrec := rf_recv hK hR hob hC
            have hpv : PreV s H C (ad a) (rf_Pc cx ocl OH sp str stt D ad base (.ref a :: (st.take q0.2).reverse) h) ((st.take q0.2).reverse.map (rf_cv ad)) := ⟨rf_blind hspk _, hrec, fun U hU hW => rf_pre hspk (.ref a :: (st.take q0.2).reverse) hR hK hE U hU hW⟩
            have hcat : 2 * (F0 m pc lsM (st.map (rf_cv ad))).monitorRoom + ((rr.map (rf_cv ad)).map fun v => v.category).sum ≤ 8 := lv_room (by rw [rf_cats]; exact hc.2)
            rcases hlink with ⟨h6, h7⟩ | ⟨x, owner, h6, h7, h8, h9, h10, h11⟩ | ⟨host, h6, h7⟩
            · exact rf_cont (va_runV hfix (hM m2) ⟨callB_of q0.2 hts (hgi j m1) rfl hrc hrs (hts _ m5) (hts _ h6) ⟨m3.1, m3.2, m4⟩ ⟨hfr, hlo⟩, hts _ hin, hts _ h7⟩ hpv rfl hlen hlz hst hcat hd hf) hloc kk2
            · refine rf_cont (va_runU (x := x) (owner := owner) hfix (hM m2) ⟨⟨hrc, hrs, hfr, hlo, pay_in hts (hgi j m1), List.mem_cons_self⟩, hts _ m1, hts _ m5, h8, fun sig hs => ?_, hts _ h6, hts _ h7, va_Decl.abs (hE.1 _ h9), hts _ h10, hts _ hin⟩ hpv rfl hlen hlz hst hcat hd hf) hloc kk2
              rw [h11] at hs
              rw [hs] at m4
              exact (Option.some.inj m4).symm
            · refine rf_cont (va_runVN (host := host) hfix (hM m2) ⟨⟨⟨hrc, hrs, hfr, hlo, pay_in hts (hgi j m1), List.mem_cons_self⟩, hts _ m1, hts _ m5, m3, fun sig hs => ?_, va_Nw.use rfl (hE.1 _ h6)⟩, hts _ hin, hts _ h7⟩ hpv rfl hlen hlz hst hcat hd hf) hloc kk2
              rw [hs] at m4
              exact (Option.some.inj m4).symm
          · cases hca
        · cases hca
      · cases hca
    · -- invokespecial
      rename_i idx a rr heq
      split at hca
      · rename_i z0 j
        split at hca
        · rename_i hc
          cases hca
          obtain ⟨⟨m1, m2, m3, m4, m5⟩, hin, hnm, hrt, hlink⟩ := hwc (z0, j) (List.mem_singleton.mpr rfl)
          have hlen : ((st.take q0.2).reverse.map (rf_cv ad)).length = q0.2 := by simp [Nat.min_eq_left hc.1]
          have hst : st.map (rf_cv ad) = ((st.take q0.2).reverse.map (rf_cv ad)).reverse ++ .ref (ad a) :: rr.map (rf_cv ad) := by
            have h5 := List.take_append_drop q0.2 st
            rw [heq] at h5
            rw [← List.map_reverse, List.reverse_reverse]
            conv => lhs; rw [← h5]
            simp [rf_cv]
          have hpv : PreS s H (rf_Pc cx ocl OH sp str stt D ad base (.ref a :: (st.take q0.2).reverse) h) (.ref (ad a) :: (st.take q0.2).reverse.map (rf_cv ad)) := ⟨rf_blind hspk _, fun U hU hW => rf_pre hspk (.ref a :: (st.take q0.2).reverse) hR hK hE U hU hW⟩
          have hcat : 2 * (F0 m pc lsM (st.map (rf_cv ad))).monitorRoom + ((rr.map (rf_cv ad)).map fun v => v.category).sum ≤ 8 := lv_room (by rw [rf_cats]; exact hc.2)
          have hw0 : rf_ws cx tb j = Cond.code (cx.2.1 j).1 (cx.2.1 j).2.1 (cx.2.1 j).2.2.1 none :: tb := by unfold rf_ws; rw [hrt]
          rcases hlink with h6 | ⟨host, h6⟩
          · exact rf_cont (va_runI hfix (hM m2) ⟨callB_of q0.2 hts (hgi j m1) hw0 hrc hrs (hts _ m5) (hts _ h6) ⟨m3.1, m3.2, m4⟩ ⟨hfr, hlo⟩, hnm, hts _ hin⟩ hpv rfl hlen hlz hst hcat hd hf) hloc kk2
          · refine rf_cont (va_runIN (host := host) hfix (hM m2) ⟨⟨⟨hrc, hrs, hfr, hlo, pay_in hts (hgi j m1), by rw [hw0]; exact List.mem_cons_self⟩, by rw [hrt] at m1; exact hts _ m1, hts _ m5, m3, fun sig hs => ?_, va_Nw.use rfl (hE.1 _ h6)⟩, hnm, hts _ hin⟩ hpv rfl hlen hlz hst hcat hd hf) hloc kk2
            rw [hs] at m4
            exact (Option.some.inj m4).symm
        · cases hca
      · cases hca
    · -- invokestatic
      rename_i idx
      split at hca
      · rename_i z0 j
        split at hca
        · rename_i hc
          cases hca
          obtain ⟨⟨m1, m2, m3, m4, m5⟩, hstat, hlink⟩ := hwc (z0, j) (List.mem_singleton.mpr rfl)
          have hlen : ((st.take q0.2).reverse.map (rf_cv ad)).length = q0.2 := by simp [Nat.min_eq_left hc.1]
          have hst : st.map (rf_cv ad) = ((st.take q0.2).reverse.map (rf_cv ad)).reverse ++ (st.drop q0.2).map (rf_cv ad) := by
            have h5 := List.take_append_drop q0.2 st
            rw [← List.map_reverse, List.reverse_reverse]
            conv => lhs; rw [← h5]
            simp
          have hpv : PreS s H (rf_Pc cx ocl OH sp str stt D ad base (st.take q0.2).reverse h) ((st.take q0.2).reverse.map (rf_cv ad)) := ⟨rf_blind hspk _, fun U hU hW => rf_pre hspk (st.take q0.2).reverse hR hK hE U hU hW⟩
          have hcat : 2 * (F0 m pc lsM (st.map (rf_cv ad))).monitorRoom + (((st.drop q0.2).map (rf_cv ad)).map fun v => v.category).sum ≤ 8 := lv_room (by rw [rf_cats]; exact hc.2)
          rcases hlink with h6 | ⟨host, h6⟩
          · exact rf_cont (va_runS hfix (hM m2) ⟨callB_of q0.2 hts (hgi j m1) rfl hrc hrs (hts _ m5) (hts _ h6) ⟨m3.1, m3.2, m4⟩ ⟨hfr, hlo⟩, hts _ hstat⟩ hpv rfl hlen hlz hst hcat hd hf) hloc kk2
          · refine rf_cont (va_runSN (host := host) hfix (hM m2) ⟨⟨⟨hrc, hrs, hfr, hlo, pay_in hts (hgi j m1), List.mem_cons_self⟩, hts _ m1, hts _ m5, m3, fun sig hs => ?_, va_Nw.use rfl (hE.1 _ h6)⟩, hts _ hstat, trivial⟩ hpv rfl hlen hlz hst hcat hd hf) hloc kk2
            rw [hs] at m4
            exact (Option.some.inj m4).symm
        · cases hca
      · cases hca
    · cases hca
  · cases hca
/-- constants of the pool, run by the machine -/
theorem rf_po_ok {p : Program} {l : Launch} {e : Env} {R : Room} {s : State} {m : MethodId} {args : Array Value} {below : List Frame} {meth : Method} {c : Code} {H : Heap} {locs : List Loc} {cells slots : Nat} {Q : State → Prop} {pc : Nat} {lsM : Array Slot} {D : va_G} {cx : rf_C} {ad : Nat → Nat} {base : Nat} {ocl : List vw_C} {OH : Heap} {tb sp : List Cond} {str : List (String × Nat × String × Nat)} {stt : List (String × String × String × Value)} {own : String} {h : rf_H} {cc : ByteArray}
    (hx : p.tables.exec = Jvm.exec) (hb : c.code = cc) (hown : s.vm.findClass own = some m.cls) (hts : ∀ w ∈ tb, w.before args s = true) (hE : rf_E sp str stt OH ad base s) (hR : rf_R ocl OH D cx ad base s H h)
    {I : Instr} {aux : List (Int × Nat)} {st st' : List Value} (he : rf_po aux st = some st') (hwp : rf_wp tb str stt own I aux) (hd : decode cc pc = .ok (I, rf_len I))
    (kk : W p l e R s m args below meth c H locs cells slots Q (F0 m (pc + rf_len I) lsM (st'.map (rf_cv ad)))) : W p l e R s m args below meth c H locs cells slots Q (F0 m pc lsM (st.map (rf_cv ad))) := by
  unfold rf_wp at hwp
  split at hwp
  · simp only [rf_po] at he
    cases he
    exact lv_ldc hx hb hown (hts _ hwp) hd kk
  · simp only [rf_po] at he
    cases he
    exact lv_ldc2 hx hb hown (hts _ hwp) hd kk
  · simp only [rf_po] at he
    cases he
    obtain ⟨tx, h1⟩ := hwp
    exact va_ldcS hx hb hown (hE.2.1 _ h1) hd kk
  · simp only [rf_po] at he
    cases he
    obtain ⟨C, n, dd, h1, h2⟩ := hwp
    obtain ⟨cf, kf, fi, f, a, cell, g1, g2, g3, g4, g5, g6, g7, g8⟩ := hE.2.2 _ h1
    exact W.gets hx hb hown (hts _ h2) g1 g2 g3 g4 (by rw [hR.2.2.2.2 a (Nat.not_le.mp g8)]; exact g5) (fun z => by rw [z] at g6; cases g6) g7 rfl hd kk
  · simp only [rf_po] at he
    cases he
    obtain ⟨C, n, dd, h1, h2⟩ := hwp
    obtain ⟨cf, kf, fi, f, a, cell, g1, g2, g3, g4, g5, g6, g7, g8⟩ := hE.2.2 _ h1
    exact W.gets hx hb hown (hts _ h2) g1 g2 g3 g4 (by rw [hR.2.2.2.2 a (Nat.not_le.mp g8)]; exact g5) (fun z => by rw [z] at g6; cases g6) g7 rfl hd kk
  · simp only [rf_po] at he
    cases he
    obtain ⟨C, n, dd, h1, h2⟩ := hwp
    obtain ⟨cf, kf, fi, f, a, cell, g1, g2, g3, g4, g5, g6, g7, g8⟩ := hE.2.2 _ h1
    exact W.gets hx hb hown (hts _ h2) g1 g2 g3 g4 (by rw [hR.2.2.2.2 a (Nat.not_le.mp g8)]; exact g5) (fun z => by rw [z] at g6; cases g6) g7 rfl hd kk
  · exact hwp.elim
set_option maxHeartbeats 8000000 in
/-- THE REFLECTION IS TRUE -/
theorem rf_main {l : Launch} {cx : rf_C} {ocl : List vw_C} {OH : Heap} {tb sp : List Cond} {str : List (String × Nat × String × Nat)} {stt : List (String × String × String × Value)} {D : va_G} {ad : Nat → Nat} {base : Nat}
    (hwf : ∀ (i pc : Nat) (I : rf_I), cx.1 i pc = some I → rf_wf cx ocl tb sp str stt i pc I) (hG : rf_G cx tb) (hA : rf_A cx ad base) (hgood : ∀ w ∈ tb, (w.onTables && w.keeps) = true ∨ ∃ ty, w = .arrayClass ty) (hspk : ∀ w ∈ sp, rf_spk w = true) : ∀ n : Nat, rf_P l cx ocl OH tb sp str stt D ad base n := by
  intro n
  induction n with
  | zero =>
    intro d i pc lsA st h r hF he
    unfold rf_ev at he
    cases he
  | succ n ih =>
    intro d i pc lsA st h r hF he
    unfold rf_ev at he
    split at he
    · cases he
    rename_i I hI
    obtain ⟨⟨len, hdec, hlen⟩, hw⟩ := hwf i pc I hI
    have hdl : rf_kd I.1 ≠ 3 → decode (cx.2.1 i).2.1 pc = .ok (I.1, rf_len I.1) := by
      intro h3
      rcases hlen with z | z
      · rw [rf_lw h3] at z; cases z
      · rw [← z]; exact hdec
    split at he
    · cases he
    · -- a step
      rename_i q hex
      obtain ⟨mono, cont⟩ := ih d i q.1 q.2.1 q.2.2.1 q.2.2.2 r hF he
      unfold rf_ex at hex
      split at hex
      · rename_i hk
        obtain ⟨x, h1, h2⟩ := Option.map_eq_some_iff.mp hex
        have h2 := Sum.inl.inj h2
        subst h2
        refine ⟨mono, fun p e R s m args below meth c H locs cells slots Q lsM hx hb hml hown hnm hts hE hK hR hloc hl h8 h9 h10 h11 hret => ?_⟩
        have hd := hdl (by rw [hk]; decide)
        rw [rf_l0 hk] at hd
        exact rf_ar_ok hx hb ad h1 hd (cont p e R s m args below meth c H locs cells slots Q lsM hx hb hml hown hnm hts hE hK hR hloc hl h8 h9 h10 h11 hret)
      · rename_i hk
        obtain ⟨x, h1, h2⟩ := Option.map_eq_some_iff.mp hex
        have h2 := Sum.inl.inj h2
        subst h2
        refine ⟨mono, fun p e R s m args below meth c H locs cells slots Q lsM hx hb hml hown hnm hts hE hK hR hloc hl h8 h9 h10 h11 hret => ?_⟩
        have hd := hdl (by rw [hk]; decide)
        exact rf_lo_ok hx hb ad h1 hd hl (cont p e R s m args below meth c H locs cells slots Q lsM hx hb hml hown hnm hts hE hK hR hloc hl h8 h9 h10 h11 hret)
      · rename_i hk
        obtain ⟨x, h1, h2⟩ := Option.map_eq_some_iff.mp hex
        have h2 := Sum.inl.inj h2
        subst h2
        refine ⟨mono, fun p e R s m args below meth c H locs cells slots Q lsM hx hb hml hown hnm hts hE hK hR hloc hl h8 h9 h10 h11 hret => ?_⟩
        have hd := hdl (by rw [hk]; decide)
        exact rf_so_ok hx hb ad h1 hd hl (fun ls' hl' => cont p e R s m args below meth c H locs cells slots Q ls' hx hb hml hown hnm hts hE hK hR hloc hl' h8 h9 h10 h11 hret)
      · rename_i hk
        obtain ⟨x, h1, h2⟩ := Option.map_eq_some_iff.mp hex
        have h2 := Sum.inl.inj h2
        subst h2
        rw [hk] at hw
        refine ⟨mono, fun p e R s m args below meth c H locs cells slots Q lsM hx hb hml hown hnm hts hE hK hR hloc hl h8 h9 h10 h11 hret => ?_⟩
        refine rf_br_ok hx hb ad (fun x y z1 z2 z3 => hA.inj z1 z2 z3) h1 hdec ?_ hw (cont p e R s m args below meth c H locs cells slots Q lsM hx hb hml hown hnm hts hE hK hR hloc hl h8 h9 h10 h11 hret)
        rcases hlen with z | z
        · exact Or.inr (rf_l3 z)
        · exact Or.inl z
      · rename_i hk
        obtain ⟨x, h1, h2⟩ := Option.map_eq_some_iff.mp hex
        have h2 := Sum.inl.inj h2
        subst h2
        rw [hk] at hw
        obtain ⟨o1, o2⟩ := rf_hp_mono h1
        dsimp only at mono cont
        refine ⟨⟨Nat.le_trans o1 mono.1, Nat.le_trans o2 mono.2⟩, fun p e R s m args below meth c H locs cells slots Q lsM hx hb hml hown hnm hts hE hK hR hloc hl h8 h9 h10 h11 hret => ?_⟩
        have hd := hdl (by rw [hk]; decide)
        have e1 : cells + (x.2.2.2.1 - h.2.2.1) + (hF.2.2.1 - x.2.2.2.1) = cells + (hF.2.2.1 - h.2.2.1) := by have := mono.1; omega
        have e2 : slots + (x.2.2.2.2 - h.2.2.2) + (hF.2.2.2 - x.2.2.2.2) = slots + (hF.2.2.2 - h.2.2.2) := by have := mono.2; omega
        refine rf_hp_ok hx hb hts hE.1 hG hown hK hA hR hloc h1 hd hw hnm (by omega) (by omega) (fun H' locs' hR' hloc' => ?_)
        refine cont p e R s m args below meth c H' locs' _ _ Q lsM hx hb hml hown hnm hts hE hK hR' hloc' hl h8 h9 (by rw [e1]; exact h10) (by rw [e2]; exact h11) ?_
        rw [e1, e2]
        exact hret
      · rename_i hk
        rw [hk] at hw
        split at hex
        · rename_i h10k
          obtain ⟨x, h1, h2⟩ := Option.map_eq_some_iff.mp hex
          have h2 := Sum.inl.inj h2
          subst h2
          rw [if_pos h10k] at hw
          obtain ⟨idx, hI5, hw8⟩ := hw
          have o1 := rf_bi_same h1
          dsimp only at mono cont
          rw [o1] at mono cont
          refine ⟨mono, fun p e R s m args below meth c H locs cells slots Q lsM hx hb hml hown hnm hts hE hK hR hloc hl h8 h9 h10 h11 hret => ?_⟩
          have hd := hdl (by rw [hk]; decide)
          have hl3 : rf_len I.1 = 3 := by rcases hI5 with z | z <;> rw [z.2] <;> rfl
          rw [hl3] at hd
          exact (rf_bi_ok hx hb (hml.trans hl.1.symm) hts hown hA hR hloc h1 hI5 hd hw8 h8 h9 (by omega) (by omega) (fun H' locs' hR' hloc' => cont p e R s m args below meth c H' locs' cells slots Q lsM hx hb hml hown hnm hts hE hK hR' hloc' hl h8 h9 h10 h11 hret)).2
        · obtain ⟨x, h1, h2⟩ := Option.map_eq_some_iff.mp hex
          cases h2
      · obtain ⟨x, h1, h2⟩ := Option.map_eq_some_iff.mp hex
        cases h2
      · rename_i hk
        obtain ⟨x, h1, h2⟩ := Option.map_eq_some_iff.mp hex
        have h2 := Sum.inl.inj h2
        subst h2
        rw [hk] at hw
        refine ⟨mono, fun p e R s m args below meth c H locs cells slots Q lsM hx hb hml hown hnm hts hE hK hR hloc hl h8 h9 h10 h11 hret => ?_⟩
        have hd := hdl (by rw [hk]; decide)
        exact rf_po_ok hx hb hown hts hE hR h1 hw hd (cont p e R s m args below meth c H locs cells slots Q lsM hx hb hml hown hnm hts hE hK hR hloc hl h8 h9 h10 h11 hret)
      · cases hex
    · -- a call
      rename_i q hex
      split at he
      · rename_i hroom
        split at he
        · cases he
        · rename_i rr hcal
          obtain ⟨r1, h1'⟩ := rr
          dsimp only at he
          obtain ⟨mono, cont⟩ := ih d i (pc + 3) lsA (r1.toList ++ q.2.2) h1' r hF he
          obtain ⟨mono2, -⟩ := ih _ _ _ _ _ _ _ _ hcal
          have hmet := fun hpl => rf_met ih hcal hroom.2.2 hpl
          unfold rf_ex at hex
          split at hex
          · obtain ⟨x, h1, h2⟩ := Option.map_eq_some_iff.mp hex; cases h2
          · obtain ⟨x, h1, h2⟩ := Option.map_eq_some_iff.mp hex; cases h2
          · obtain ⟨x, h1, h2⟩ := Option.map_eq_some_iff.mp hex; cases h2
          · obtain ⟨x, h1, h2⟩ := Option.map_eq_some_iff.mp hex; cases h2
          · obtain ⟨x, h1, h2⟩ := Option.map_eq_some_iff.mp hex; cases h2
          · rename_i hk
            rw [hk] at hw
            split at hex
            · obtain ⟨x, h1, h2⟩ := Option.map_eq_some_iff.mp hex; cases h2
            · rename_i h10k
              rw [if_neg h10k] at hw
              obtain ⟨x, h1, h2⟩ := Option.map_eq_some_iff.mp hex
              have h2 := Sum.inl.inj (Sum.inr.inj h2)
              subst h2
              refine ⟨⟨Nat.le_trans mono2.1 mono.1, Nat.le_trans mono2.2 mono.2⟩, fun p e R s m args below meth c H locs cells slots Q lsM hx hb hml hown hnm hts hE hK hR hloc hl h8 h9 h10 h11 hret => ?_⟩
              have hd := hdl (by rw [hk]; decide)
              have hl3 : rf_len I.1 = 3 := by
                revert hk
                cases I.1 <;> first | (intro hk; rfl) | (intro hk; simp [rf_kd] at hk)
              rw [hl3] at hd
              have e1 : cells + (h1'.2.2.1 - h.2.2.1) + (hF.2.2.1 - h1'.2.2.1) = cells + (hF.2.2.1 - h.2.2.1) := by have := mono.1; have := mono2.1; omega
              have e2 : slots + (h1'.2.2.2 - h.2.2.2) + (hF.2.2.2 - h1'.2.2.2) = slots + (hF.2.2.2 - h.2.2.2) := by have := mono.2; have := mono2.2; omega
              refine rf_ca_ok hx hb hml hl.1 hown hts hgood hspk hE hK hR hloc h1 hw hd rfl rfl hmet (by show d.1 - 1 + 1 ≤ _; omega) (by show 8 + (_ + 11) + (d.2 - _) ≤ _; omega) ⟨by show cells + (h1'.2.2.1 - h.2.2.1) ≤ _; omega, by show slots + (h1'.2.2.2 - h.2.2.2) ≤ _; omega⟩ (fun H' locs' hR' hloc' => ?_)
              refine cont p e R s m args below meth c H' locs' _ _ Q lsM hx hb hml hown hnm hts hE hK hR' hloc' hl h8 h9 (by rw [e1]; exact h10) (by rw [e2]; exact h11) ?_
              rw [e1, e2]
              exact hret
          · obtain ⟨x, h1, h2⟩ := Option.map_eq_some_iff.mp hex; cases h2
          · obtain ⟨x, h1, h2⟩ := Option.map_eq_some_iff.mp hex; cases h2
          · cases hex
      · cases he
    · -- the end
      rename_i v hex
      cases he
      unfold rf_ex at hex
      split at hex
      · obtain ⟨x, h1, h2⟩ := Option.map_eq_some_iff.mp hex; cases h2
      · obtain ⟨x, h1, h2⟩ := Option.map_eq_some_iff.mp hex; cases h2
      · obtain ⟨x, h1, h2⟩ := Option.map_eq_some_iff.mp hex; cases h2
      · obtain ⟨x, h1, h2⟩ := Option.map_eq_some_iff.mp hex; cases h2
      · obtain ⟨x, h1, h2⟩ := Option.map_eq_some_iff.mp hex; cases h2
      · split at hex
        · obtain ⟨x, h1, h2⟩ := Option.map_eq_some_iff.mp hex; cases h2
        · obtain ⟨x, h1, h2⟩ := Option.map_eq_some_iff.mp hex; cases h2
      · rename_i hk
        obtain ⟨x, h1, h2⟩ := Option.map_eq_some_iff.mp hex
        have h2 := Sum.inr.inj (Sum.inr.inj h2)
        subst h2
        refine ⟨⟨Nat.le_refl _, Nat.le_refl _⟩, fun p e R s m args below meth c H locs cells slots Q lsM hx hb hml hown hnm hts hE hK hR hloc hl h8 h9 h10 h11 hret => ?_⟩
        have hd := hdl (by rw [hk]; decide)
        rw [rf_l6 hk] at hd
        have h12 := hret pc I.1 H locs lsM st hd h1 hR hloc
        simp only [Nat.sub_self, Nat.add_zero] at h12
        exact h12
      · obtain ⟨x, h1, h2⟩ := Option.map_eq_some_iff.mp hex; cases h2
      · cases hex
