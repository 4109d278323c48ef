def R_law : String := "MemoryTransactionsLaw"
def lw_P (b : Addr) (xs : List Int32) (args : Array Value) (s : State) : Prop := args = #[.ref b] ∧ s.IntsAt b xs ∧ xs.length ≤ 3072 ∧ (Jvm.Cond.and given_1 narrow_1).before args s = true
def lw_Q (_ : Array Value) (s : State) (o : Outcome) (t : State) : Prop := o = .returned (some (.int 1)) ∧ Framed s o t [] 600000 7302250
def lw_Z (below : List Frame) (a : Array Value) (s : State) : State → Prop := fun t => ∃ o, t.status = .running ∧ Ended t below o ∧ lw_Q a s o t
/-- the law's own end, with 1 on the stack, nothing written that was there before, its room as the claim has it -/
theorem lw_ret {p : Program} {l : Launch} {e : Env} {s : State} {m : MethodId} {below : List Frame} {meth : Method} {c : Code} {b : Nat} (hx : p.tables.exec = Jvm.exec) (hb : c.code = code) (hr : meth.sig.returnType = ret) (hlocks : meth.locks = false) {pc : Nat} {H : Heap} {ls : Array Slot} (hdg : decode code pc = .ok (.ireturn, 1)) : W p l e room_1 s m #[Value.ref b] below meth c H [] 600000 7302250 (lw_Z below #[Value.ref b] s) (F0 m pc ls [.int 1]) := by
  intro T hT X
  obtain ⟨fs, hret, hrun, hended, hW, hframe⟩ := X.leave (v := some (.int 1)) (hlocks := hlocks) (fun h => by rw [hr] at h; cases h)
  have hmeth' : T.vm.method? m = some meth := X.method'
  refine ⟨T.setFrames fs, ?_, .returned (some (.int 1)), hrun, hended, rfl, ⟨_, rfl⟩, hW, hframe⟩
  jvm_step X.here [X.here.top, hx, hb, hdg, hmeth', hr, ret, narrow_b1]
  (try refine ⟨rfl, ?_⟩); (try refine ⟨rfl, ?_⟩)
  first | (intro acts; rw [hret _ acts rfl rfl rfl]) | rw [hret _ _ rfl rfl rfl]
  exact Steps.refl _
/-- what holds at the law's entry: the machine, the code, the tables' words (any of lw_tbl by 'hts w (by decide +kernel)'), the script of L ints xs at the cell b, what the Statement gives of the start (any of its parts by flat_of_before) -/
def lw_At (p : Program) (s : State) (m : MethodId) (meth : Method) (c : Code) (b L : Nat) (xs : Nat → Int32) : Prop :=
  p.tables.exec = Jvm.exec ∧ c.code = code ∧ meth.sig.returnType = ret ∧ c.maxLocals = 4 ∧ s.vm.findClass R_law = some m.cls ∧ (∀ w ∈ lw_tbl, w.before #[Value.ref b] s = true) ∧ va_X b L xs s s.heap ∧ b < s.heap.size ∧ meth.locks = false ∧ (Jvm.Cond.and given_1 narrow_1).before #[Value.ref b] s = true
/-! THE CLAIM OUT OF THE EVALUATOR -/
/-- what is to be shown: the evaluator comes to 1, within the room -/
def pu_goal (fz : Bool) (L : Nat) (xs : Nat → Int32) : Prop := ∃ (n : Nat) (hF : rf_H), rf_ev (cx0 fz) n (2048, 84000) 0 0 [(0, .ref 1)] [] (h00 L xs) = some (some (.int 1), hF) ∧ hF.2.2.1 ≤ 600000 ∧ hF.2.2.2 ≤ 7302250
set_option maxHeartbeats 4000000 in
theorem st_ao {s : State} {b L : Nat} {xs : Nat → Int32} {f : Nat} {fz : Bool} {adK adV : Nat → Nat} (hX : va_X b L xs s s.heap) (hS : vk_S 10 sl0 sb0 adK adV (fun q => s.heap.size ≤ q) s s.heap) : ∀ a, 0 < a → a < 22 → rf_ao ocl0 (cx0 fz) (ad0 f b s.heap.size adK adV) s s.heap (h0M xs) a (h0S L a) := by
  intro a h0 h1
  by_cases ha : a = 1
  · subst ha
    obtain ⟨scr, q1, q2, q3, q4, q5⟩ := hX
    exact ⟨scr, q1, q2, q3, Nat.le_of_eq q4.symm, by rw [q4]; rfl, fun j hj => q5 j hj⟩
  · by_cases he : a % 2 = 0
    · obtain ⟨i, hi, rfl⟩ : ∃ i, i < 10 ∧ a = 2 + 2 * i := ⟨(a - 2) / 2, by omega, by omega⟩
      have hsh : h0S L (2 + 2 * i) = .inl 0 := by
        unfold h0S
        rw [if_neg (by omega), if_neg (by omega)]
      rw [hsh]
      obtain ⟨⟨cell, o1, o2, o3, -⟩, c1, v1, -⟩ := hS.1 i hi
      refine ⟨oq_0, rfl, ⟨cell, by rw [ad0_e _ _ _ _ _ hi]; exact o1, o2, o3⟩, fun k hk => ?_⟩
      have hk2 : k = 0 ∨ k = 1 := by
        have : k < 2 := hk
        omega
      rcases hk2 with rfl | rfl
      · obtain ⟨cf, kf, fi, fd, cel, g1, g2, g3, g4, g5, -⟩ := v1
        refine ⟨cf, kf, fi, fd, cel, g1, g2, by rw [ad0_e _ _ _ _ _ hi]; exact g3, g4, ?_⟩
        rw [g5]
        show some (Value.ref (adV i)) = some (Value.ref (ad0 f b s.heap.size adK adV (2 + 2 * i + 1)))
        rw [show 2 + 2 * i + 1 = 3 + 2 * i by omega, ad0_o _ _ _ _ _ hi]
      · obtain ⟨cf, kf, fi, fd, cel, g1, g2, g3, g4, g5, -⟩ := c1
        refine ⟨cf, kf, fi, fd, cel, g1, g2, by rw [ad0_e _ _ _ _ _ hi]; exact g3, g4, ?_⟩
        rw [g5]
        show some (Value.int 0) = some (Value.int (if 2 + 2 * i = 1 then xs 1 else if (2 + 2 * i) % 2 = 1 then _ else 0))
        rw [if_neg (by omega), if_neg (by omega)]
    · obtain ⟨i, hi, rfl⟩ : ∃ i, i < 10 ∧ a = 3 + 2 * i := ⟨(a - 3) / 2, by omega, by omega⟩
      have hdv : (3 + 2 * i - 3) / 2 = i := by omega
      have hsh : h0S L (3 + 2 * i) = .inr (.byte, sl0.getD i 0) := by
        unfold h0S
        rw [if_neg (by omega), if_pos (by omega), hdv]
      rw [hsh]
      obtain ⟨-, -, -, cel, t1, t2, t3, t4, t5, t6, -⟩ := hS.1 i hi
      refine ⟨cel, by rw [ad0_o _ _ _ _ _ hi]; exact t1, t2, t3, t4, t5, fun j hj => ?_⟩
      rw [t6 j hj]
      show some (Value.int _) = some (Value.int (if 3 + 2 * i = 1 then xs j else if (3 + 2 * i) % 2 = 1 then (sb0.getD ((3 + 2 * i - 3) / 2) []).getD j 0 else 0))
      rw [if_neg (by omega), if_pos (by omega), hdv]
set_option maxHeartbeats 4000000 in
theorem whole_of {p : Program} {e : Env} {s : State} {m : MethodId} {below : List Frame} {meth : Method} {c : Code} (l : Launch) {b L : Nat} {xs : Nat → Int32} (hpu : ∀ fz, pu_goal fz L xs) (C0 : lw_At p s m meth c b L xs) : W p l e room_1 s m #[Value.ref b] below meth c s.heap [] 0 0 (lw_Z below #[Value.ref b] s) (entryFrame m ([Value.ref b] : List Value).toArray 4) := by
  obtain ⟨hx, hb, hr, hml, hown, hts, hX, hbl, hlocks, hgv⟩ := C0
  have hfl := flat_of_before _ hgv
  have hA : ∀ a : Nat, a < s.heap.size → ¬ (fun q : Nat => s.heap.size ≤ q) a := fun a h => Nat.not_le.mpr h
  have htb : ∀ w ∈ tb0, w.before #[Value.ref b] s = true := fun w hw => hts w (List.mem_filter.mp hw).1
  obtain ⟨adK, adV, hS, hSe⟩ := vk_Sof (args := #[Value.ref b]) (s := s) (N := 10) (tm := tm0) (len := sl0) (byt := sb0) (A := fun q => s.heap.size ≤ q) fl_sl (fun i hi => hfl _ (fl_ex i hi)) (fun i hi => hfl _ (fl_co i hi)) (fun i hi => hfl _ (fl_ar i hi)) (fun i hi => hfl _ (fl_le i hi)) (fun i hi j hj => hfl _ (fl_el i hi j hj)) (fun i j hi hj hij => (fl_ne i hi j hj hij).imp (fun z => hfl _ z) (fun z => hfl _ z)) hA
  have hcs := va_Zof (hts _ ls_cs) (hts _ in_cs) (va_eqi (hfl _ fl_cs)) hA
  obtain ⟨D, hK⟩ := kn_0 htb
  obtain ⟨fz, f, hfm⟩ : ∃ (fz : Bool) (f : Nat), va_Z "jdk/internal/util/Preconditions" "SIOOBE_FORMATTER" "Ljava/util/function/BiFunction;" (if fz then .ref f else .null) (fun q => s.heap.size ≤ q) s s.heap := by
    rcases va_Zqof (hts _ ls_fm) (hts _ in_fm) (hfl _ fl_fm) hA with z | ⟨t, z⟩
    · exact ⟨false, 0, z⟩
    · exact ⟨true, t, z⟩
  have hAd : rf_A (cx0 fz) (ad0 f b s.heap.size adK adV) s.heap.size := by
    refine ⟨fun a ha => ?_, fun a h0 h1 => ?_, (show 0 < 22 from Nat.le_of_ble_eq_true rfl)⟩
    · have ha : 22 ≤ a := ha
      show ad0 f b s.heap.size adK adV a = s.heap.size + (a - 22)
      unfold ad0
      rw [if_neg (by omega), if_neg (by omega), if_neg (by omega)]
    · have h1 : a < 22 := h1
      by_cases ha : a = 1
      · subst ha; exact hbl
      · by_cases he : a % 2 = 0
        · obtain ⟨i, hi, rfl⟩ : ∃ i, i < 10 ∧ a = 2 + 2 * i := ⟨(a - 2) / 2, by omega, by omega⟩
          rw [ad0_e _ _ _ _ _ hi]
          obtain ⟨⟨cell, o1, -⟩, -⟩ := hS.1 i hi
          exact (Array.getElem?_eq_some_iff.mp o1).1
        · obtain ⟨i, hi, rfl⟩ : ∃ i, i < 10 ∧ a = 3 + 2 * i := ⟨(a - 3) / 2, by omega, by omega⟩
          rw [ad0_o _ _ _ _ _ hi]
          obtain ⟨-, -, -, cel, t1, -⟩ := hS.1 i hi
          exact (Array.getElem?_eq_some_iff.mp t1).1
  have hR : rf_R ocl0 s.heap D (cx0 fz) (ad0 f b s.heap.size adK adV) s.heap.size s s.heap (h00 L xs) :=
    ⟨fun a h1 h2 => absurd (Nat.lt_of_lt_of_le h2 h1) (Nat.lt_irrefl _), st_ao hX hS, rfl, Nat.le_refl _, fun _ _ => rfl⟩
  have hE : rf_E sp0 str0 (stt0 fz) s.heap (ad0 f b s.heap.size adK adV) s.heap.size s := by
    refine ⟨fun w hw => rf_sp_of (List.mem_filter.mp hw).2 (hts w (List.mem_filter.mp hw).1), fun q hq => ?_, ?_⟩
    · obtain ⟨i, hi, e1, e2, e3, e4⟩ := str0_at q hq
      obtain ⟨q1, q2, q3, q4⟩ := q
      dsimp only at e1 e2 e3 e4
      subst e1; subst e2; subst e3; subst e4
      refine vk_R.of (A := #[Value.ref b]) (hts _ (sr_0 i hi)) ?_
      rw [ad0_e _ _ _ _ _ hi]
      exact hSe i hi
    · refine List.forall_mem_cons.mpr ⟨hcs, List.forall_mem_cons.mpr ⟨?_, fun _ h => absurd h List.not_mem_nil⟩⟩
      cases fz
      · exact hfm
      · exact hfm
  obtain ⟨n, hF, hev, hc1, hc2⟩ := hpu fz
  have hP := rf_main (l := l) (OH := s.heap) (D := D) (cx0_wf fz) (cx0_G fz) hAd tb0_good sp0_spk n
  obtain ⟨-, hW⟩ := hP (2048, 84000) 0 0 [(0, .ref 1)] [] (h00 L xs) (some (.int 1)) hF hev
  have hl := lv_entry ([.ref b]) (n := 4) (Nat.le_of_ble_eq_true rfl)
  rw [lg_entry_eq]
  refine hW p e room_1 s m _ below meth c s.heap [] 0 0 _ _ hx hb hml hown ?_ htb hE hK hR (fun q hq => by cases hq) hl (Nat.le_refl _) (Nat.le_refl _) ?_ ?_ ?_
  · intro z
    have z2 : ("law" : String) = "<init>" := z
    exact absurd z2 (by decide +kernel)
  · show 0 + (hF.2.2.1 - 22) ≤ 600000
    omega
  · show 0 + (hF.2.2.2 - 0) ≤ 7302250
    omega
  · intro pcR IR HR locsR lsR stR hd hrt hRR hloc
    have hi : IR = .ireturn ∧ stR = [.int 1] := by
      have hrt : rf_rt IR (some .boolean) stR = some (some (.int 1)) := hrt
      unfold rf_rt at hrt
      split at hrt
      all_goals first
        | (exfalso; simp_all; done)
        | (split at hrt
           · cases hrt; exact ⟨rfl, rfl⟩
           · cases hrt)
    obtain ⟨rfl, rfl⟩ := hi
    refine va_forget (fun q hq => hloc q hq) ?_
    refine W.widen (k := 600000) (n := 7302250) (by show 0 + (hF.2.2.1 - 22) ≤ 600000; omega) (by show 0 + (hF.2.2.2 - 0) ≤ 7302250; omega) ?_
    exact lw_ret hx hb hr hlocks hd
/-! ROWS OF THE EVALUATOR, over a heap ((I, L, R), S): S are the shapes, which no instruction but the makings changes -/
